/** The document's promises one by one: ordinary inputs, the edges that it names, wrong inputs. */
public final class PromiseTest {
    private static final Answers answers = new Answers("PromiseTest");
    private static final int[] KEEPERS = {0, 1, 2};
    private static final int[] WRONG_ROOTS = {-1, 16, Integer.MIN_VALUE, Integer.MAX_VALUE};
    private static final int[] WRONG_FIELDS = {-1, 6, Integer.MIN_VALUE, Integer.MAX_VALUE};
    private static final int NONE = -1;
    private static final int BAD = -2;
    private static final int REFUSED = -3;
    private static final int FULL = -4;

    public static void main(String[] args) {
        constants();
        promise1NewObject();
        for (int keeper : KEEPERS) {
            promise2MakeAnyKeeper(keeper);
            promise2TwoThousand(keeper);
            promise3Set(keeper);
            promise4Link(keeper);
            promise5Refers(keeper);
            promise6Number(keeper);
            promise7Load(keeper);
            promise8Copy(keeper);
            promise9Drop(keeper);
            promise10CollectAnyKeeper(keeper);
            promise12ObjectAnyKeeper(keeper);
            promise13At(keeper);
            promise14CountAnyKeeper(keeper);
            promise15Same(keeper);
            promise16Sum(keeper);
        }
        promise2MakeSweeping();
        promise2MakeCopying();
        promise2MakeAging();
        promise2MakeAgingFull();
        promise2MakeTooLargeForTheYoung();
        promise2RootHoldsWhileMaking();
        promise4LinkRemembers();
        promise10CollectSweeping();
        promise10CollectCopying();
        promise10CollectAging();
        promise10CollectFails();
        promise11Minor();
        promise11MinorOrder();
        promise11MinorFirstFit();
        promise11MinorFails();
        promise11MinorKeepsByOldUnreached();
        promise14CountCollections();
        answers.end();
    }

    private static void due(String call, long got, long want) {
        answers.due(call, got, want);
    }

    private static void constants() {
        due("NONE", KeptHeap.NONE, NONE);
        due("BAD", KeptHeap.BAD, BAD);
        due("REFUSED", KeptHeap.REFUSED, REFUSED);
        due("FULL", KeptHeap.FULL, FULL);
    }

    private static void promise1NewObject() {
        int[][] sizes = {{16, 16}, {15, 16}, {0, 16}, {-1, 16}, {Integer.MIN_VALUE, 16}, {17, 16}, {19, 16},
            {20, 20}, {23, 20}, {101, 100}, {399, 396}, {400, 400}, {401, 400}, {Integer.MAX_VALUE, 400}};
        for (int keeper : new int[] {0, 1, 2, 3, -1, Integer.MIN_VALUE, Integer.MAX_VALUE}) {
            for (int[] size : sizes) {
                KeptHeap heap = new KeptHeap(keeper, size[0]);
                due("P1 W of " + size[0], heap.count(8), size[1]);
                due("P1 the last word", heap.at(size[1] - 1), NONE);
                due("P1 behind the last word", heap.at(size[1]), BAD);
            }
            KeptHeap heap = new KeptHeap(keeper, 32);
            for (int root = 0; root < 16; root++) {
                due("P1 root " + root + " refers to none", heap.object(root, 0), REFUSED);
            }
            for (int what = 0; what < 8; what++) {
                due("P1 count " + what + " at first", heap.count(what), 0);
            }
            boolean second = keeper == 2;
            due("P1 minor of keeper " + keeper, heap.minor(), second ? 0 : BAD);
            heap.make(0, 0);
            heap.collect();
            int address = keeper == 1 ? 16 : second ? 8 : 0;
            due("P1 address of keeper " + keeper, heap.object(0, 1), address);
        }
    }

    private static void promise2MakeAnyKeeper(int keeper) {
        KeptHeap heap = new KeptHeap(keeper, 400);
        for (int wrong : WRONG_ROOTS) {
            due("P2 make of a wrong root", heap.make(wrong, 0), BAD);
        }
        for (int wrong : new int[] {-1, 7, Integer.MIN_VALUE, Integer.MAX_VALUE}) {
            due("P2 make of wrong fields", heap.make(0, wrong), BAD);
        }
        due("P2 nothing made by wrong calls", heap.count(2), 0);
        int address = 0;
        for (int n = 0; n <= 6; n++) {
            due("P2 name", heap.make(15 - n, n), n);
            due("P2 address", heap.object(15 - n, 1), address);
            due("P2 fields", heap.object(15 - n, 2), n);
            address += n + 1;
        }
        due("P2 a root's second object", heap.make(15, 1), 7);
        due("P2 the root refers to it", heap.object(15, 0), 7);
        due("P2 the first one is still there", heap.at(0), 0);
        due("P2 a new field's number", heap.number(15, 0), 0);
        due("P2 a new field refers not", heap.refers(15, 0), 0);
    }

    /** Beyond the 512th call, but the document names the edge. */
    private static void promise2TwoThousand(int keeper) {
        KeptHeap heap = new KeptHeap(keeper, 16);
        for (int i = 0; i < 2000; i++) {
            due("P2 one of 2000", heap.make(0, 2), i);
        }
        int collected = heap.count(3);
        int minors = heap.count(4);
        int there = heap.count(0);
        due("P2 after 2000", heap.make(0, 6), FULL);
        due("P2 after 2000, wrong", heap.make(0, 7), BAD);
        due("P2 nothing collected", heap.count(3), collected);
        due("P2 no MINOR", heap.count(4), minors);
        due("P2 nothing went", heap.count(0), there);
        due("P2 the root's object", heap.object(0, 0), 1999);
    }

    private static void promise2MakeSweeping() {
        KeptHeap heap = new KeptHeap(0, 16);
        heap.make(0, 2);
        heap.make(1, 3);
        heap.make(2, 2);
        due("P2 sweeping: up to the last word", heap.make(3, 5), 3);
        due("P2 sweeping: nothing collected yet", heap.count(3), 0);
        heap.drop(1);
        due("P2 sweeping: no room but by collecting", heap.make(4, 1), 4);
        due("P2 sweeping: least address", heap.object(4, 1), 3);
        due("P2 sweeping: collected once", heap.count(3), 1);
        due("P2 sweeping: words that are side by side", heap.make(5, 2), FULL);
        due("P2 sweeping: FULL collects", heap.count(3), 2);
        due("P2 sweeping: FULL leaves the root", heap.object(5, 0), REFUSED);
        due("P2 sweeping: FULL gives no name", heap.make(5, 1), 5);
        due("P2 sweeping: the gap is just large enough", heap.object(5, 1), 5);
        heap.drop(0);
        heap.drop(2);
        heap.collect();
        due("P2 sweeping: least of two gaps", heap.make(6, 0), 6);
        due("P2 sweeping: at its least address", heap.object(6, 1), 0);
        due("P2 sweeping: behind a gap that is too small", heap.make(7, 2), 7);
        due("P2 sweeping: in the next gap", heap.object(7, 1), 7);
    }

    private static void promise2MakeCopying() {
        KeptHeap heap = new KeptHeap(1, 24);
        heap.make(0, 4);
        heap.make(1, 5);
        due("P2 copying: up to the half's end", heap.make(2, 0), 2);
        due("P2 copying: at the half's last word", heap.object(2, 1), 11);
        due("P2 copying: nothing collected yet", heap.count(3), 0);
        heap.drop(1);
        due("P2 copying: room by collecting", heap.make(3, 5), 3);
        due("P2 copying: the other half", heap.object(0, 1), 12);
        due("P2 copying: then the next root's", heap.object(2, 1), 17);
        due("P2 copying: then the new one", heap.object(3, 1), 18);
        due("P2 copying: up to the words' end", heap.at(23), 3);
        due("P2 copying: FULL", heap.make(4, 0), FULL);
        due("P2 copying: FULL collects", heap.count(3), 2);
        due("P2 copying: what was collected stays so", heap.object(0, 1), 0);
        due("P2 copying: FULL leaves the root", heap.object(4, 0), REFUSED);
        heap.drop(0);
        due("P2 copying: no gap is used again", heap.make(4, 0), 4);
        due("P2 copying: but after collecting", heap.count(3), 3);
        due("P2 copying: behind those copied", heap.object(4, 1), 19);
    }

    private static void promise2MakeAging() {
        KeptHeap heap = new KeptHeap(2, 32);
        heap.make(0, 3);
        due("P2 aging: up to the young's end", heap.make(1, 3), 1);
        due("P2 aging: no MINOR yet", heap.count(4), 0);
        heap.drop(0);
        due("P2 aging: MINOR", heap.make(2, 6), 2);
        due("P2 aging: MINOR once", heap.count(4), 1);
        due("P2 aging: not collected", heap.count(3), 0);
        due("P2 aging: young again from 0 on", heap.object(2, 1), 0);
        due("P2 aging: the other went over", heap.object(1, 1), 8);
        due("P2 aging: what was dropped went", heap.count(0), 2);
    }

    private static void promise2MakeAgingFull() {
        KeptHeap heap = new KeptHeap(2, 16);
        for (int root = 0; root < 3; root++) {
            heap.make(root, 3);
        }
        heap.minor();
        due("P2 aging: the last young one", heap.make(3, 3), 3);
        due("P2 aging: MINOR and TO COLLECT fail", heap.make(4, 0), FULL);
        due("P2 aging: collected once", heap.count(3), 1);
        due("P2 aging: MINOR did not fail three times", heap.count(4), 3);
        due("P2 aging: all are there", heap.count(0), 4);
        due("P2 aging: the young one stays", heap.object(3, 1), 0);
        due("P2 aging: FULL leaves the root", heap.object(4, 0), REFUSED);
        heap.drop(1);
        due("P2 aging: MINOR fails, TO COLLECT does not", heap.make(4, 0), 4);
        due("P2 aging: collected twice", heap.count(3), 2);
        due("P2 aging: MINOR in it", heap.count(4), 4);
        due("P2 aging: in the gap", heap.object(3, 1), 8);
        due("P2 aging: the new one", heap.object(4, 1), 0);
    }

    private static void promise2MakeTooLargeForTheYoung() {
        KeptHeap heap = new KeptHeap(2, 16);
        heap.make(0, 1);
        heap.drop(0);
        due("P2 aging: too large", heap.make(1, 4), FULL);
        due("P2 aging: no MINOR for it", heap.count(4), 0);
        due("P2 aging: not collected for it", heap.count(3), 0);
        due("P2 aging: nothing went for it", heap.count(0), 1);
        due("P2 aging: just as large as the young", heap.make(1, 3), 1);
        due("P2 aging: MINOR for it", heap.count(4), 1);
        due("P2 aging: what was dropped went for it", heap.count(0), 1);
    }

    private static void promise2RootHoldsWhileMaking() {
        KeptHeap sweeping = new KeptHeap(0, 16);
        sweeping.make(0, 6);
        sweeping.make(1, 6);
        due("P2 sweeping: a root holds its object still", sweeping.make(0, 6), FULL);
        due("P2 sweeping: and has it after FULL", sweeping.object(0, 0), 0);
        KeptHeap copying = new KeptHeap(1, 16);
        copying.make(0, 6);
        due("P2 copying: a root holds its object still", copying.make(0, 6), FULL);
        due("P2 copying: and has it after FULL", copying.object(0, 1), 8);
        KeptHeap aging = new KeptHeap(2, 16);
        aging.make(0, 3);
        due("P2 aging: a root holds its object still", aging.make(0, 3), 1);
        due("P2 aging: so it went over", aging.at(4), 0);
    }

    private static void promise3Set(int keeper) {
        wrongFields("P3 set", keeper, (heap, root, field) -> heap.set(root, field, 1));
        KeptHeap heap = new KeptHeap(keeper, 64);
        heap.make(0, 6);
        for (int field = 0; field < 6; field++) {
            due("P3 set", heap.set(0, field, field * 10 - 20), 0);
        }
        for (int field = 0; field < 6; field++) {
            due("P3 the number set", heap.number(0, field), field * 10 - 20);
        }
        due("P3 set least", heap.set(0, 2, Integer.MIN_VALUE), 0);
        due("P3 least", heap.number(0, 2), Integer.MIN_VALUE);
        due("P3 set greatest", heap.set(0, 2, Integer.MAX_VALUE), 0);
        due("P3 greatest", heap.number(0, 2), Integer.MAX_VALUE);
        heap.make(1, 0);
        heap.link(0, 3, 1);
        due("P3 set a field that refers", heap.set(0, 3, 8), 0);
        due("P3 it refers no more", heap.refers(0, 3), 0);
        due("P3 it has the number", heap.number(0, 3), 8);
        heap.drop(1);
        due("P3 so its object goes", heap.collect(), 1);
    }

    private static void promise4Link(int keeper) {
        wrongFields("P4 link", keeper, (heap, root, field) -> heap.link(root, field, 15));
        KeptHeap heap = new KeptHeap(keeper, 100);
        heap.make(0, 2);
        due("P4 to none", heap.link(0, 0, 5), REFUSED);
        due("P4 both are none", heap.link(4, 0, 5), REFUSED);
        due("P4 a field it has not, to none", heap.link(0, 2, 5), BAD);
        due("P4 no such field, from none", heap.link(4, 6, 5), BAD);
        for (int wrong : WRONG_ROOTS) {
            due("P4 to a wrong root", heap.link(0, 0, wrong), BAD);
            due("P4 from none to a wrong root", heap.link(4, 0, wrong), BAD);
        }
        heap.set(0, 1, 9);
        due("P4 to the same", heap.link(0, 0, 0), 0);
        heap.make(1, 1);
        due("P4 over a number", heap.link(0, 1, 1), 0);
        due("P4 it refers", heap.refers(0, 1), 1);
        due("P4 the number is no more", heap.number(0, 1), 0);
        due("P4 to the right one", heap.load(2, 0, 1), 1);
        due("P4 to itself", heap.load(2, 0, 0), 0);
        heap.drop(1);
        heap.drop(2);
        due("P4 it keeps its object", heap.collect(), 0);
        due("P4 its object is the same", heap.load(3, 0, 1), 1);
    }

    private static void promise4LinkRemembers() {
        KeptHeap heap = new KeptHeap(2, 64);
        heap.make(0, 3);
        heap.make(1, 3);
        heap.link(0, 0, 1);
        due("P4 a young one is not remembered", heap.count(6), 0);
        heap.minor();
        heap.link(0, 1, 1);
        due("P4 old to old is not remembered", heap.count(6), 0);
        heap.make(2, 1);
        heap.link(2, 0, 0);
        due("P4 young to old is not remembered", heap.count(6), 0);
        heap.link(0, 2, 2);
        due("P4 old to young is remembered", heap.object(0, 4), 1);
        due("P4 the young one is not", heap.object(2, 4), 0);
        heap.link(0, 1, 2);
        due("P4 remembered once", heap.count(6), 1);
        heap.set(0, 1, 0);
        heap.set(0, 2, 0);
        due("P4 remembered until MINOR, though it refers no more", heap.count(6), 1);
        heap.drop(2);
        due("P4 it keeps nothing then", heap.minor(), 1);
        due("P4 nothing is remembered", heap.count(6), 0);
    }

    private static void promise5Refers(int keeper) {
        wrongFields("P5 refers", keeper, KeptHeap::refers);
        KeptHeap heap = new KeptHeap(keeper, 64);
        heap.make(0, 3);
        heap.link(0, 1, 0);
        heap.set(0, 2, 1);
        due("P5 of a new field", heap.refers(0, 0), 0);
        due("P5 of one that refers", heap.refers(0, 1), 1);
        due("P5 of a number", heap.refers(0, 2), 0);
        heap.collect();
        due("P5 after collecting", heap.refers(0, 1), 1);
    }

    private static void promise6Number(int keeper) {
        KeptHeap heap = new KeptHeap(keeper, 64);
        for (int wrong : WRONG_ROOTS) {
            due("P6 of a wrong root", heap.number(wrong, 0), 0);
        }
        due("P6 of none", heap.number(0, 0), 0);
        heap.make(0, 2);
        heap.set(0, 0, -3);
        heap.set(0, 1, 7);
        for (int wrong : WRONG_FIELDS) {
            due("P6 of a wrong field", heap.number(0, wrong), 0);
        }
        due("P6 of a field it has not", heap.number(0, 2), 0);
        due("P6 of a field", heap.number(0, 0), -3);
        due("P6 of another", heap.number(0, 1), 7);
        heap.link(0, 1, 0);
        due("P6 of one that refers", heap.number(0, 1), 0);
        heap.collect();
        due("P6 after collecting", heap.number(0, 0), -3);
    }

    private static void promise7Load(int keeper) {
        wrongFields("P7 load", keeper, (heap, from, field) -> heap.load(15, from, field));
        KeptHeap heap = new KeptHeap(keeper, 100);
        heap.make(0, 2);
        heap.make(1, 0);
        heap.link(0, 1, 1);
        for (int wrong : WRONG_ROOTS) {
            due("P7 to a wrong root", heap.load(wrong, 0, 1), BAD);
            due("P7 to a wrong root, from none", heap.load(wrong, 9, 0), BAD);
        }
        due("P7 a number", heap.load(2, 0, 0), REFUSED);
        due("P7 leaves the root then", heap.object(2, 0), REFUSED);
        due("P7 to a root that refers to none", heap.load(2, 0, 1), 1);
        due("P7 it refers to it", heap.same(1, 2), 1);
        due("P7 over the root's own object", heap.load(0, 0, 1), 1);
        due("P7 it refers to that", heap.object(0, 0), 1);
        due("P7 the other is not reached", heap.count(7), 1);
    }

    private static void promise8Copy(int keeper) {
        KeptHeap heap = new KeptHeap(keeper, 64);
        for (int wrong : WRONG_ROOTS) {
            due("P8 from a wrong root", heap.copy(0, wrong), BAD);
            due("P8 to a wrong root", heap.copy(wrong, 0), BAD);
        }
        due("P8 none", heap.copy(0, 1), NONE);
        heap.make(0, 1);
        heap.make(1, 1);
        due("P8 an object", heap.copy(2, 1), 1);
        due("P8 is the same", heap.same(1, 2), 1);
        due("P8 over another", heap.copy(0, 1), 1);
        due("P8 it is lost", heap.collect(), 1);
        due("P8 to itself", heap.copy(2, 2), 1);
        due("P8 none over another", heap.copy(2, 9), NONE);
        due("P8 it refers to none", heap.object(2, 0), REFUSED);
    }

    private static void promise9Drop(int keeper) {
        KeptHeap heap = new KeptHeap(keeper, 64);
        for (int wrong : WRONG_ROOTS) {
            due("P9 a wrong root", heap.drop(wrong), BAD);
        }
        due("P9 none", heap.drop(15), 0);
        heap.make(15, 1);
        due("P9 an object", heap.drop(15), 1);
        due("P9 again", heap.drop(15), 0);
        due("P9 it refers to none", heap.object(15, 0), REFUSED);
        due("P9 the object is still there", heap.at(0), 0);
        due("P9 but not reached", heap.count(7), 0);
    }

    private static void promise10CollectAnyKeeper(int keeper) {
        KeptHeap heap = new KeptHeap(keeper, 100);
        due("P10 of nothing", heap.collect(), 0);
        heap.make(0, 2);
        heap.make(1, 2);
        heap.make(2, 2);
        heap.link(1, 0, 2);
        heap.link(2, 1, 1);
        heap.set(0, 0, 41);
        long sum = heap.sum(0);
        due("P10 all are reached", heap.collect(), 0);
        heap.drop(2);
        due("P10 reached by a field", heap.collect(), 0);
        heap.drop(1);
        due("P10 a ring that is not reached", heap.collect(), 2);
        due("P10 what is reached is what it was", heap.sum(0), sum);
        due("P10 its name too", heap.object(0, 0), 0);
        due("P10 names are not given again", heap.make(3, 0), 3);
    }

    private static void promise10CollectSweeping() {
        KeptHeap heap = new KeptHeap(0, 32);
        heap.make(0, 1);
        heap.make(1, 2);
        heap.make(2, 3);
        heap.drop(1);
        due("P10 sweeping", heap.collect(), 1);
        due("P10 sweeping: nothing moves", heap.object(2, 1), 5);
        due("P10 sweeping: words are free", heap.at(2), NONE);
        due("P10 sweeping: all of them", heap.at(4), NONE);
        due("P10 sweeping: no more than these", heap.at(1), 0);
    }

    /** Roots 3 and 7 refer to 1 and 0; 1 to 4 and 3; 0 to 3 and 2. */
    private static void promise10CollectCopying() {
        KeptHeap heap = new KeptHeap(1, 64);
        heap.make(7, 3);
        heap.make(3, 2);
        heap.make(8, 1);
        heap.make(9, 0);
        heap.make(10, 1);
        heap.make(11, 4);
        heap.link(3, 0, 10);
        heap.link(3, 1, 9);
        heap.link(7, 1, 9);
        heap.link(7, 2, 8);
        for (int root = 8; root <= 11; root++) {
            heap.drop(root);
        }
        due("P10 copying", heap.collect(), 1);
        int[] order = {1, 1, 1, 0, 0, 0, 0, 4, 4, 3, 2, 2, NONE};
        for (int i = 0; i < order.length; i++) {
            due("P10 copying: word " + (32 + i), heap.at(32 + i), order[i]);
        }
        due("P10 copying: the first half is free", heap.at(0), NONE);
        due("P10 copying: five came to another address", heap.count(5), 5);
        due("P10 copying: back again", heap.collect(), 0);
        for (int i = 0; i < order.length; i++) {
            due("P10 copying back: word " + i, heap.at(i), order[i]);
        }
        due("P10 copying: ten came to another address", heap.count(5), 10);
        heap.drop(3);
        heap.drop(7);
        due("P10 copying: all go", heap.collect(), 5);
        heap.make(0, 0);
        due("P10 copying: the half changes with nothing in it too", heap.object(0, 1), 32);
    }

    private static void promise10CollectAging() {
        KeptHeap heap = new KeptHeap(2, 64);
        heap.make(0, 3);
        heap.make(1, 3);
        heap.minor();
        heap.make(2, 1);
        heap.make(3, 1);
        heap.link(1, 0, 2);
        heap.link(3, 0, 0);
        heap.drop(2);
        heap.drop(0);
        heap.drop(1);
        due("P10 aging: one old, and one young that it held", heap.collect(), 2);
        due("P10 aging: an old one reached by a young one stays", heap.load(0, 3, 0), 0);
        due("P10 aging: the young one went over", heap.object(3, 1), 20);
        due("P10 aging: nothing is remembered", heap.count(6), 0);
        due("P10 aging: collected", heap.count(3), 1);
        due("P10 aging: MINOR too", heap.count(4), 2);
    }

    /** The old are full, but an old object that is not reached goes; its gap is too small. */
    private static void promise10CollectFails() {
        KeptHeap heap = new KeptHeap(2, 16);
        for (int root = 0; root < 6; root++) {
            heap.make(root, 1);
            heap.minor();
        }
        heap.make(6, 3);
        heap.link(1, 0, 6);
        heap.link(2, 0, 6);
        heap.drop(2);
        due("P10 failing: two are remembered", heap.count(6), 2);
        due("P10 failing: FULL", heap.collect(), FULL);
        due("P10 failing: what went stays gone", heap.count(0), 6);
        due("P10 failing: its words are free", heap.at(8), NONE);
        due("P10 failing: who did not go is remembered still", heap.object(1, 4), 1);
        due("P10 failing: who went is not", heap.count(6), 1);
        due("P10 failing: no words were taken", heap.count(1), 14);
        due("P10 failing: it was collected", heap.count(3), 1);
        due("P10 failing: MINOR is not counted", heap.count(4), 6);
        due("P10 failing: nothing came to another address", heap.count(5), 6);
        heap.drop(3);
        due("P10 with room", heap.collect(), 1);
        due("P10 side by side", heap.object(6, 1), 8);
    }

    private static void promise11Minor() {
        due("P11 keeper 0", new KeptHeap(0, 64).minor(), BAD);
        due("P11 keeper 1", new KeptHeap(1, 64).minor(), BAD);
        due("P11 keeper 3", new KeptHeap(3, 64).minor(), BAD);
        KeptHeap heap = new KeptHeap(2, 64);
        due("P11 of nothing", heap.minor(), 0);
        due("P11 counts", heap.count(4), 1);
        heap.make(0, 1);
        heap.make(1, 1);
        heap.make(2, 1);
        heap.link(0, 0, 2);
        heap.drop(1);
        heap.drop(2);
        due("P11 one of three went", heap.minor(), 1);
        due("P11 the others are old", heap.object(0, 3), 1);
        due("P11 young words are free", heap.at(0), NONE);
        heap.drop(0);
        due("P11 old ones do not go", heap.minor(), 0);
        due("P11 they are there", heap.count(0), 2);
        due("P11 it is not collected", heap.count(3), 0);
    }

    /** Roots first, then the remembered by their addresses, then what these refer to. */
    private static void promise11MinorOrder() {
        KeptHeap heap = new KeptHeap(2, 80);
        heap.make(0, 2);
        heap.make(1, 2);
        heap.minor();
        for (int root = 2; root <= 8; root++) {
            heap.make(root, 1);
        }
        heap.link(1, 0, 2);
        heap.link(1, 1, 3);
        heap.link(0, 1, 4);
        heap.link(0, 0, 5);
        heap.link(8, 0, 6);
        heap.link(5, 0, 7);
        heap.copy(15, 7);
        heap.copy(14, 8);
        for (int root = 2; root <= 8; root++) {
            heap.drop(root);
        }
        due("P11 all are held", heap.minor(), 0);
        int[] order = {8, 7, 5, 4, 2, 3, 6};
        for (int i = 0; i < order.length; i++) {
            due("P11 the " + i + "th that goes over", heap.at(26 + 2 * i), order[i]);
        }
        due("P11 each once", heap.count(5), 9);
        due("P11 each is there", heap.count(0), 9);
    }

    private static void promise11MinorFirstFit() {
        KeptHeap heap = new KeptHeap(2, 64);
        heap.make(0, 1);
        heap.make(1, 1);
        heap.make(2, 3);
        heap.make(3, 1);
        heap.minor();
        heap.drop(0);
        heap.drop(2);
        heap.collect();
        heap.make(4, 2);
        heap.make(5, 0);
        heap.make(6, 1);
        heap.make(7, 0);
        heap.minor();
        due("P11 into the second gap", heap.object(4, 1), 20);
        due("P11 into the first gap", heap.object(5, 1), 16);
        due("P11 behind all", heap.object(6, 1), 26);
        due("P11 into what the first gap has left", heap.object(7, 1), 17);
    }

    private static void promise11MinorFails() {
        KeptHeap heap = new KeptHeap(2, 16);
        heap.make(0, 3);
        heap.minor();
        heap.make(1, 3);
        heap.minor();
        heap.make(2, 1);
        heap.minor();
        heap.make(3, 0);
        heap.make(4, 1);
        heap.link(0, 0, 3);
        heap.make(5, 0);
        heap.drop(5);
        due("P11 fails", heap.minor(), FULL);
        due("P11 the one that had room stays young", heap.object(3, 1), 0);
        due("P11 the other too", heap.object(4, 1), 1);
        due("P11 its room is free again", heap.at(14), NONE);
        due("P11 the dropped one stays", heap.at(3), 5);
        due("P11 remembered still", heap.object(0, 4), 1);
        due("P11 not counted", heap.count(4), 3);
        due("P11 none came to another address", heap.count(5), 3);
        due("P11 not collected", heap.count(3), 0);
        heap.drop(4);
        due("P11 with room for one", heap.minor(), 2);
        due("P11 it goes over", heap.object(3, 1), 14);
        due("P11 remembered no more", heap.object(0, 4), 0);
    }

    private static void promise11MinorKeepsByOldUnreached() {
        KeptHeap heap = new KeptHeap(2, 64);
        heap.make(0, 1);
        heap.minor();
        heap.make(1, 1);
        heap.link(0, 0, 1);
        heap.drop(0);
        heap.drop(1);
        due("P11 nothing is reached", heap.count(7), 0);
        due("P11 an old one holds a young one", heap.minor(), 0);
        due("P11 both are there", heap.count(0), 2);
        due("P11 until it is collected", heap.collect(), 2);
    }

    private static void promise12ObjectAnyKeeper(int keeper) {
        KeptHeap heap = new KeptHeap(keeper, 64);
        for (int what = 0; what <= 4; what++) {
            due("P12 of none", heap.object(0, what), REFUSED);
            for (int wrong : WRONG_ROOTS) {
                due("P12 of a wrong root", heap.object(wrong, what), BAD);
            }
        }
        heap.make(1, 2);
        heap.make(0, 5);
        for (int wrong : new int[] {-1, 5, Integer.MIN_VALUE, Integer.MAX_VALUE}) {
            due("P12 of a wrong what", heap.object(0, wrong), BAD);
            due("P12 of a wrong what and none", heap.object(9, wrong), BAD);
        }
        int[] first = {1, 3, 5, 0, 0};
        for (int what = 0; what <= 4; what++) {
            due("P12 what = " + what, heap.object(0, what), first[what]);
        }
        heap.collect();
        int[] second = {1, keeper == 1 ? 32 : keeper == 2 ? 16 : 3, 5, keeper == 2 ? 1 : 0, 0};
        for (int what = 0; what <= 4; what++) {
            due("P12 collected, what = " + what, heap.object(0, what), second[what]);
        }
        heap.make(2, 1);
        heap.link(0, 0, 2);
        due("P12 remembered", heap.object(0, 4), keeper == 2 ? 1 : 0);
        due("P12 a new one is young", heap.object(2, 3), 0);
    }

    private static void promise13At(int keeper) {
        KeptHeap heap = new KeptHeap(keeper, 32);
        for (int wrong : new int[] {-1, 32, Integer.MIN_VALUE, Integer.MAX_VALUE}) {
            due("P13 of a wrong word", heap.at(wrong), BAD);
        }
        for (int word = 0; word < 32; word++) {
            due("P13 at first", heap.at(word), NONE);
        }
        heap.make(0, 0);
        heap.make(1, 3);
        heap.drop(1);
        int[] names = {0, 1, 1, 1, 1, NONE};
        for (int word = 0; word < names.length; word++) {
            due("P13 word " + word, heap.at(word), names[word]);
        }
        heap.collect();
        int start = keeper == 1 ? 16 : keeper == 2 ? 8 : 0;
        for (int word = 0; word < 32; word++) {
            due("P13 collected, word " + word, heap.at(word), word == start ? 0 : NONE);
        }
    }

    private static void promise14CountAnyKeeper(int keeper) {
        KeptHeap heap = new KeptHeap(keeper, 67);
        for (int wrong : new int[] {-1, 9, Integer.MIN_VALUE, Integer.MAX_VALUE}) {
            due("P14 of a wrong what", heap.count(wrong), BAD);
        }
        heap.make(0, 2);
        heap.make(1, 3);
        heap.make(2, 0);
        heap.link(0, 1, 2);
        heap.drop(1);
        heap.drop(2);
        counts("P14 made", heap, new int[] {3, 8, 3, 0, 0, 0, 0, 2, 64});
        heap.collect();
        boolean third = keeper == 2;
        int moves = keeper == 0 ? 0 : 2;
        counts("P14 collected", heap, new int[] {2, 4, 3, 1, third ? 1 : 0, moves, 0, 2, 64});
        heap.make(3, 6);
        heap.link(0, 0, 3);
        counts("P14 linked", heap, new int[] {3, 11, 4, 1, third ? 1 : 0, moves, third ? 1 : 0, 3, 64});
        heap.minor();
        moves += third ? 1 : 0;
        counts("P14 minor", heap, new int[] {3, 11, 4, 1, third ? 2 : 0, moves, 0, 3, 64});
        heap.drop(0);
        counts("P14 dropped", heap, new int[] {3, 11, 4, 1, third ? 2 : 0, moves, 0, 1, 64});
    }

    private static void promise14CountCollections() {
        for (int keeper : KEEPERS) {
            KeptHeap heap = new KeptHeap(keeper, 16);
            for (int i = 0; i < 5; i++) {
                heap.collect();
            }
            due("P14 collected five times", heap.count(3), 5);
            due("P14 MINOR in these", heap.count(4), keeper == 2 ? 5 : 0);
            due("P14 nothing came to another address", heap.count(5), 0);
        }
    }

    private static void counts(String when, KeptHeap heap, int[] want) {
        for (int what = 0; what < want.length; what++) {
            due(when + ": count(" + what + ")", heap.count(what), want[what]);
        }
    }

    private static void promise15Same(int keeper) {
        KeptHeap heap = new KeptHeap(keeper, 64);
        for (int wrong : WRONG_ROOTS) {
            due("P15 a wrong root", heap.same(wrong, 0), BAD);
            due("P15 another wrong root", heap.same(0, wrong), BAD);
            due("P15 both wrong", heap.same(wrong, wrong), BAD);
        }
        due("P15 two that refer to none", heap.same(0, 15), 1);
        heap.make(0, 1);
        due("P15 one refers to none", heap.same(0, 1), 0);
        due("P15 the other refers to none", heap.same(1, 0), 0);
        due("P15 itself", heap.same(0, 0), 1);
        heap.make(1, 1);
        due("P15 two alike", heap.same(0, 1), 0);
        heap.copy(2, 0);
        due("P15 one object", heap.same(2, 0), 1);
        heap.collect();
        due("P15 one object, collected", heap.same(2, 0), 1);
        due("P15 two objects, collected", heap.same(2, 1), 0);
    }

    private static void promise16Sum(int keeper) {
        KeptHeap heap = new KeptHeap(keeper, 200);
        for (int wrong : WRONG_ROOTS) {
            due("P16 a wrong root", heap.sum(wrong), BAD);
        }
        due("P16 none", heap.sum(0), 0);
        heap.make(0, 0);
        due("P16 no fields", heap.sum(0), 7 * 31);
        heap.make(0, 1);
        due("P16 a field", heap.sum(0), (7 * 31 + 1) * 31);
        heap.set(0, 0, -5);
        due("P16 a number", heap.sum(0), (7 * 31 + 1) * 31 - 10);
        heap.set(0, 0, Integer.MAX_VALUE);
        due("P16 a large number", heap.sum(0), (7 * 31 + 1) * 31 + 2L * Integer.MAX_VALUE);
        heap.link(0, 0, 0);
        due("P16 itself", heap.sum(0), (7 * 31 + 1) * 31 + 1);
        sumOfFour(heap);
    }

    /** Root 1's object refers to b, a, b; b to c; a to itself and b: in turn 0, b 1, a 2, c 3. */
    private static void sumOfFour(KeptHeap heap) {
        heap.make(1, 3);
        heap.make(2, 2);
        heap.make(3, 1);
        heap.make(4, 6);
        heap.link(1, 0, 3);
        heap.link(1, 1, 2);
        heap.link(1, 2, 3);
        heap.link(3, 0, 4);
        heap.link(2, 0, 2);
        heap.link(2, 1, 3);
        heap.set(4, 5, 21);
        long s = 7;
        int[] parts = {3, 3, 5, 3, 1, 7, 2, 5, 3, 6, 0, 0, 0, 0, 0, 42};
        for (int part : parts) {
            s = 31 * s + part;
        }
        due("P16 four objects", heap.sum(1), s);
        heap.drop(2);
        heap.drop(3);
        heap.drop(4);
        heap.drop(0);
        heap.collect();
        due("P16 wherever they lie", heap.sum(1), s);
        due("P16 a sum changes nothing", heap.sum(1), s);
    }

    private interface FieldCall {
        int answer(KeptHeap heap, int root, int field);
    }

    /** Answers BAD and REFUSED that all calls with a root's field have in common. */
    private static void wrongFields(String call, int keeper, FieldCall made) {
        KeptHeap heap = new KeptHeap(keeper, 64);
        for (int wrong : WRONG_ROOTS) {
            due(call + " of a wrong root", made.answer(heap, wrong, 0), BAD);
        }
        for (int wrong : WRONG_FIELDS) {
            due(call + " of a wrong field and none", made.answer(heap, 0, wrong), BAD);
        }
        due(call + " of none", made.answer(heap, 0, 5), REFUSED);
        heap.make(0, 2);
        heap.make(15, 0);
        for (int wrong : WRONG_FIELDS) {
            due(call + " of a wrong field", made.answer(heap, 0, wrong), BAD);
        }
        due(call + " of a field that it has not", made.answer(heap, 0, 2), BAD);
        due(call + " of one that has no fields", made.answer(heap, 15, 0), BAD);
        heap.drop(0);
        due(call + " of a dropped one", made.answer(heap, 0, 0), REFUSED);
    }
}
