import java.math.BigInteger;

/** The promises one by one, for each keeper: ordinary inputs, the edges that they name, wrong inputs. */
public final class PromiseTest {
    private static final Answers answers = new Answers("PromiseTest");
    private static final int NONE = -1;
    private static final int BAD = -2;
    private static final int REFUSED = -3;
    private static final int FULL = -4;
    private static final int LEAST = Integer.MIN_VALUE;
    private static final int MOST = Integer.MAX_VALUE;

    public static void main(String[] args) {
        constants();
        anotherKeeper();
        for (int keeper : Answers.KEEPERS) {
            newHeap(keeper);
            wordsCutOff(keeper);
            make(keeper);
            makeWithWrongFields(keeper);
            makeAfterTwoThousand(keeper);
            set(keeper);
            setOverAReference(keeper);
            setWrong(keeper);
            link(keeper);
            linkToNone(keeper);
            refers(keeper);
            number(keeper);
            numberWhereThereIsNone(keeper);
            load(keeper);
            loadANumber(keeper);
            copy(keeper);
            copyOfNone(keeper);
            drop(keeper);
            collect(keeper);
            minor(keeper);
            object(keeper);
            objectIsOld(keeper);
            objectWrong(keeper);
            at(keeper);
            count(keeper);
            countCollected(keeper);
            countMoved(keeper);
            countWrong(keeper);
            same(keeper);
            sumOfOne(keeper);
            sumOfFields(keeper);
            sumOfFour(keeper);
            sumThatRunsOver(keeper);
            sumOfNone(keeper);
        }
        minorFails();
        countWhereMinorFailed();
        answers.end();
    }

    private static void due(String call, long got, long want) {
        answers.due(call, got, want);
    }

    private static void constants() {
        answers.sentence("The public face");
        due("NONE", KeptHeap.NONE, NONE);
        due("BAD", KeptHeap.BAD, BAD);
        due("REFUSED", KeptHeap.REFUSED, REFUSED);
        due("FULL", KeptHeap.FULL, FULL);
    }

    private static void anotherKeeper() {
        answers.sentence("A KEEPER (another one counts as 0)");
        for (int keeper : new int[] {-1, 3, 4, 10, LEAST, MOST}) {
            KeptHeap heap = Answers.heapOf(keeper, 16, 2, 2, 7, 5);
            due("made up to the last word by " + keeper, heap.at(15), 3);
            due("MINOR", heap.minor(), BAD);
            heap.drop(0);
            due("collected", heap.collect(), 1);
            due("nothing came to another address", heap.object(1, 1), 2);
            answers.dueMade("at the least address", heap, 0, 2, 0);
            due("nothing is old", heap.object(3, 3), 0);
        }
    }

    private static void newHeap(int keeper) {
        answers.sentence("A KEEPER (another one counts as 0) with W words");
        KeptHeap heap = new KeptHeap(keeper, 16);
        answers.dueCounts("a new one", heap, 0, 0, 0, 0, 0, 0, 0, 0, 16);
        for (int word = 0; word < 16; word++) {
            answers.dueWords("a new one", heap, word, NONE);
        }
        heap.make(0, 0);
        heap.collect();
        int[] addresses = {0, 8, 4};
        due("the keeper is " + keeper, heap.object(0, 1), addresses[keeper]);
        due("MINOR", heap.minor(), keeper == 2 ? 0 : BAD);
    }

    private static void wordsCutOff(int keeper) {
        answers.sentence("with W words (below 16 counts as 16, above 400 as 400, cut off to a multiple of 4)");
        int[][] sizes = {{LEAST, 16}, {-16, 16}, {-1, 16}, {0, 16}, {1, 16}, {12, 16}, {15, 16}, {16, 16}, {17, 16},
            {19, 16}, {20, 20}, {21, 20}, {23, 20}, {24, 24}, {101, 100}, {396, 396}, {397, 396}, {399, 396},
            {400, 400}, {401, 400}, {404, 400}, {MOST - 3, 400}, {MOST, 400}};
        for (int[] size : sizes) {
            KeptHeap heap = new KeptHeap(keeper, size[0]);
            due("W of " + size[0], heap.count(8), size[1]);
            due("the last word of " + size[0], heap.at(size[1] - 1), NONE);
            due("behind it", heap.at(size[1]), BAD);
            heap.make(0, 0);
            heap.collect();
            int[] addresses = {0, size[1] / 2, size[1] / 4};
            due("the halves and quarters of " + size[0], heap.object(0, 1), addresses[keeper]);
        }
    }

    private static void make(int keeper) {
        answers.sentence("TO MAKE: the object's NAME.");
        KeptHeap heap = new KeptHeap(keeper, 400);
        int address = 0;
        for (int n = 0; n <= 6; n++) {
            due("name", heap.make(15 - n, n), n);
            due("address", heap.object(15 - n, 1), address);
            due("fields", heap.object(15 - n, 2), n);
            address += n + 1;
        }
        due("a root's second object", heap.make(15, 1), 7);
        due("the root refers to it", heap.object(15, 0), 7);
        due("the first one is still there", heap.at(0), 0);
        due("other roots refer to theirs", heap.object(14, 0), 1);
    }

    private static void makeWithWrongFields(int keeper) {
        answers.sentence("BAD: n is not 0 .. 6");
        KeptHeap heap = new KeptHeap(keeper, 400);
        for (int wrong : new int[] {-1, 7, LEAST, MOST}) {
            due("n = " + wrong, heap.make(0, wrong), BAD);
        }
        answers.dueCounts("nothing made", heap, 0, 0, 0, 0, 0, 0, 0, 0, 400);
        due("the least n", heap.make(0, 0), 0);
        due("the greatest n", heap.make(1, 6), 1);
        KeptHeap full = Answers.heapOf(keeper, 16, 1);
        for (int i = 0; i < 20; i++) {
            full.make(0, 3);
        }
        int collected = full.count(3);
        int minors = full.count(4);
        due("BAD, where there is no room either", full.make(0, 7), BAD);
        due("nothing is collected for it", full.count(3), collected);
        due("no MINOR for it", full.count(4), minors);
    }

    /** Beyond the 512th call, where answers are free; but the document names the edge. */
    private static void makeAfterTwoThousand(int keeper) {
        answers.sentence("FULL (also if 2000 were made: then at once, and nothing is collected)");
        KeptHeap heap = new KeptHeap(keeper, 16);
        for (int i = 0; i < 2000; i++) {
            due("one of 2000", heap.make(0, 2), i);
        }
        int collected = heap.count(3);
        int minors = heap.count(4);
        int there = heap.count(0);
        due("one more that has no room", heap.make(0, 6), FULL);
        due("a wrong one", heap.make(0, 7), BAD);
        due("nothing is collected", heap.count(3), collected);
        due("no MINOR", heap.count(4), minors);
        due("nothing went", heap.count(0), there);
        heap.drop(0);
        heap.collect();
        due("one more that has room", heap.make(0, 0), FULL);
        due("made", heap.count(2), 2000);
        due("the root refers to none", heap.object(0, 0), REFUSED);
    }

    private static void set(int keeper) {
        answers.sentence("A field of a root's object gets a number: 0.");
        KeptHeap heap = new KeptHeap(keeper, 64);
        heap.make(0, 6);
        heap.make(1, 6);
        for (int field = 0; field < 6; field++) {
            due("set", heap.set(0, field, field * 10 - 20), 0);
        }
        for (int field = 0; field < 6; field++) {
            due("the number of field " + field, heap.number(0, field), field * 10 - 20);
            due("another object's", heap.number(1, field), 0);
        }
        for (int number : new int[] {LEAST, MOST, 1, NONE, BAD, REFUSED, FULL, 0}) {
            due("set " + number, heap.set(0, 2, number), 0);
            due("number " + number, heap.number(0, 2), number);
        }
        due("the field before", heap.number(0, 1), -10);
        due("the field behind", heap.number(0, 3), 10);
    }

    private static void setOverAReference(int keeper) {
        answers.sentence("A field of a root's object gets a number: 0.");
        KeptHeap heap = Answers.heapOf(keeper, 64, 2, 1);
        heap.link(0, 0, 1);
        due("set a field that refers", heap.set(0, 0, 8), 0);
        due("it refers no more", heap.refers(0, 0), 0);
        due("it has the number", heap.number(0, 0), 8);
        heap.drop(1);
        due("whom it referred to goes", heap.collect(), 1);
        due("the number stays", heap.number(0, 0), 8);
    }

    private static void setWrong(int keeper) {
        answers.sentence("A field of a root's object gets a number: 0. BAD; REFUSED.");
        KeptHeap heap = Answers.heapOf(keeper, 64, 3, 1);
        heap.set(0, 1, 4);
        due("a root behind the last", heap.set(16, 1, 9), BAD);
        due("a field that it has not", heap.set(0, 2, 9), BAD);
        due("the last field that it has", heap.set(0, 1, 5), 0);
        due("of an object without fields", heap.set(1, 0, 9), BAD);
        due("of none", heap.set(2, 5, 9), REFUSED);
        due("of none, a field behind the last", heap.set(2, 6, 9), BAD);
        due("only the right one is done", heap.number(0, 1), 5);
    }

    private static void link(int keeper) {
        answers.sentence("A field of a root's object comes to refer to what a root (perhaps the same) refers to: 0.");
        KeptHeap heap = Answers.heapOf(keeper, 100, 3, 2);
        heap.set(0, 1, 9);
        due("to the same", heap.link(0, 0, 0), 0);
        due("over a number", heap.link(0, 1, 1), 0);
        due("it refers", heap.refers(0, 1), 1);
        due("the number is no more", heap.number(0, 1), 0);
        due("to the right one", heap.load(2, 0, 1), 1);
        due("to itself", heap.load(2, 0, 0), 0);
        due("over a reference", heap.link(0, 0, 1), 0);
        due("to the other", heap.load(2, 0, 0), 1);
        heap.drop(1);
        heap.drop(2);
        due("whom it refers to stays", heap.collect(), 0);
        due("it is the same one", heap.load(3, 0, 1), 1);
        heap.make(0, 0);
        due("what the root comes to is no matter to the field", heap.load(3, 3, 0), REFUSED);
    }

    private static void linkToNone(int keeper) {
        answers.sentence("BAD; REFUSED: one of both refers to none.");
        KeptHeap heap = Answers.heapOf(keeper, 64, 3);
        heap.set(0, 0, 9);
        due("the second", heap.link(0, 0, 5), REFUSED);
        due("the field has its number", heap.number(0, 0), 9);
        due("the first", heap.link(5, 0, 0), REFUSED);
        due("both", heap.link(4, 0, 5), REFUSED);
        due("the same", heap.link(4, 0, 4), REFUSED);
        due("a field that it has not, to none", heap.link(0, 2, 5), BAD);
        due("no such field, from none", heap.link(4, 6, 0), BAD);
        due("no such root, from none", heap.link(4, 0, 16), BAD);
        due("none refers", heap.refers(0, 0), 0);
    }

    private static void refers(int keeper) {
        answers.sentence("Whether a field of a root's object refers to an object (1) or has a number (0). BAD; REFUSED.");
        KeptHeap heap = Answers.heapOf(keeper, 64, 4);
        heap.link(0, 1, 0);
        heap.set(0, 2, 1);
        for (int round = 0; round < 3; round++) {
            due("a new field", heap.refers(0, 0), 0);
            due("one that refers", heap.refers(0, 1), 1);
            due("a number", heap.refers(0, 2), 0);
            due("a field that it has not", heap.refers(0, 3), BAD);
            due("a field behind the last", heap.refers(0, 6), BAD);
            due("none", heap.refers(1, 5), REFUSED);
            due("none, a field behind the last", heap.refers(1, 6), BAD);
            due("no such root", heap.refers(16, 0), BAD);
            heap.collect();
        }
    }

    private static void number(int keeper) {
        answers.sentence("The number that a field of a root's object has; 0 if it refers");
        KeptHeap heap = Answers.heapOf(keeper, 64, 3);
        heap.set(0, 0, -3);
        heap.set(0, 1, 7);
        due("a field", heap.number(0, 0), -3);
        due("another", heap.number(0, 1), 7);
        heap.link(0, 1, 0);
        due("one that refers", heap.number(0, 1), 0);
        heap.collect();
        due("collected", heap.number(0, 0), -3);
        due("collected, one that refers", heap.number(0, 1), 0);
    }

    private static void numberWhereThereIsNone(int keeper) {
        answers.sentence("0 if it refers, or there is none such");
        KeptHeap heap = Answers.heapOf(keeper, 64, 3, 1);
        heap.set(0, 0, 5);
        heap.set(0, 1, 6);
        for (int wrong : Answers.WRONG_ROOTS) {
            due("no such root", heap.number(wrong, 0), 0);
        }
        for (int wrong : new int[] {-1, 2, 5, 6, LEAST, MOST}) {
            due("no such field", heap.number(0, wrong), 0);
            due("none, no such field", heap.number(2, wrong), 0);
        }
        due("an object without fields", heap.number(1, 0), 0);
        due("none", heap.number(2, 0), 0);
    }

    private static void load(int keeper) {
        answers.sentence("A root comes to refer to what a field of another one's object refers to: its NAME.");
        KeptHeap heap = Answers.heapOf(keeper, 100, 7, 1);
        heap.link(0, 5, 1);
        due("to a root that refers to none", heap.load(15, 0, 5), 1);
        due("one object", heap.same(1, 15), 1);
        due("the other root has its own still", heap.object(0, 0), 0);
        heap.collect();
        due("to a root that refers", heap.load(1, 0, 5), 1);
        due("over the root's own object", heap.load(0, 0, 5), 1);
        due("it refers to that", heap.object(0, 0), 1);
        due("the one before is not reached", heap.collect(), 1);
    }

    private static void loadANumber(int keeper) {
        answers.sentence("BAD; REFUSED: also the field has a number.");
        KeptHeap heap = Answers.heapOf(keeper, 64, 3, 1);
        heap.set(0, 1, 1);
        due("a number", heap.load(2, 0, 1), REFUSED);
        due("a new field", heap.load(2, 0, 0), REFUSED);
        due("the root refers to none still", heap.object(2, 0), REFUSED);
        due("to a root that refers", heap.load(1, 0, 0), REFUSED);
        due("it refers to its own still", heap.object(1, 0), 1);
        due("from none", heap.load(1, 3, 0), REFUSED);
        due("it refers to its own still", heap.object(1, 0), 1);
        due("no such root, a number", heap.load(16, 0, 0), BAD);
        due("a field that it has not", heap.load(1, 0, 2), BAD);
    }

    private static void copy(int keeper) {
        answers.sentence("A root comes to refer to what another one does");
        KeptHeap heap = Answers.heapOf(keeper, 64, 2, 2);
        due("the first object", heap.copy(14, 0), 0);
        due("one object", heap.same(0, 14), 1);
        due("another object", heap.copy(14, 1), 1);
        due("an object", heap.copy(15, 1), 1);
        due("one object", heap.same(1, 15), 1);
        due("objects", heap.count(0), 2);
        due("over another", heap.copy(0, 1), 1);
        due("that one goes", heap.collect(), 1);
        due("to itself", heap.copy(1, 1), 1);
        heap.set(15, 0, 6);
        due("one object has one number", heap.number(0, 0), 6);
    }

    private static void copyOfNone(int keeper) {
        answers.sentence("to none if that does: the NAME, NONE. BAD.");
        KeptHeap heap = Answers.heapOf(keeper, 64, 2);
        due("none to none", heap.copy(1, 2), NONE);
        due("none to itself", heap.copy(1, 1), NONE);
        due("no such root", heap.copy(0, 16), BAD);
        due("it refers still", heap.object(0, 0), 0);
        due("none to one that refers", heap.copy(0, 9), NONE);
        due("it refers to none", heap.object(0, 0), REFUSED);
        due("what it referred to is not reached", heap.collect(), 1);
        due("none from no such root", heap.copy(1, -1), BAD);
        due("none to no such root", heap.copy(-1, 1), BAD);
    }

    private static void drop(int keeper) {
        answers.sentence("A root refers to none: whether it referred to an object (1, 0). BAD.");
        KeptHeap heap = new KeptHeap(keeper, 64);
        due("none", heap.drop(15), 0);
        heap.make(15, 1);
        heap.copy(14, 15);
        due("an object", heap.drop(15), 1);
        due("again", heap.drop(15), 0);
        due("it refers to none", heap.object(15, 0), REFUSED);
        due("another root refers to it still", heap.drop(14), 1);
        due("the object is there", heap.at(0), 0);
        due("but not reached", heap.count(7), 0);
        due("behind the last root", heap.drop(16), BAD);
        due("before the first", heap.drop(-1), BAD);
    }

    private static void collect(int keeper) {
        answers.sentence("TO COLLECT: how many objects went.");
        KeptHeap heap = new KeptHeap(keeper, 100);
        due("of nothing", heap.collect(), 0);
        for (int root = 0; root < 3; root++) {
            heap.make(root, 2);
        }
        heap.link(1, 0, 2);
        heap.link(2, 1, 1);
        heap.set(0, 0, 41);
        long sum = heap.sum(0);
        due("all are reached", heap.collect(), 0);
        heap.drop(2);
        due("reached by a field", heap.collect(), 0);
        heap.drop(1);
        due("a ring that is not reached", heap.collect(), 2);
        due("nothing more", heap.collect(), 0);
        due("what is reached is what it was", heap.sum(0), sum);
        heap.drop(0);
        due("the last", heap.collect(), 1);
    }

    private static void minor(int keeper) {
        answers.sentence("MINOR: how many objects went. BAD: another keeper");
        KeptHeap heap = Answers.heapOf(keeper, 64, 2, 2, 2);
        heap.link(0, 0, 2);
        heap.drop(1);
        heap.drop(2);
        boolean ages = keeper == 2;
        due("one of three", heap.minor(), ages ? 1 : BAD);
        due("how many are there", heap.count(0), ages ? 2 : 3);
        due("address", heap.object(0, 1), ages ? 16 : 0);
        due("not collected", heap.count(3), 0);
        heap.drop(0);
        due("old ones do not go", heap.minor(), ages ? 0 : BAD);
        due("counted", heap.count(4), ages ? 2 : 0);
        due("of nothing", new KeptHeap(keeper, 64).minor(), ages ? 0 : BAD);
    }

    private static void minorFails() {
        answers.sentence("FULL: it failed.");
        KeptHeap heap = Answers.heapOf(2, 16, 4, 4, 4, 4);
        due("no old word is free", heap.minor(), FULL);
        due("again", heap.minor(), FULL);
        heap.drop(0);
        due("an old one that is not reached makes no room", heap.minor(), FULL);
        heap.drop(3);
        due("who goes needs none", heap.minor(), 1);
    }

    private static void object(int keeper) {
        answers.sentence("Of a root's object: what = 0 its NAME, 1 its ADDRESS, 2 how many fields");
        KeptHeap heap = new KeptHeap(keeper, 64);
        heap.make(1, 2);
        heap.make(0, 5);
        int[] made = {1, 3, 5, 0, 0};
        int[] addresses = {3, 32, 16};
        for (int what = 0; what <= 4; what++) {
            due("what = " + what, heap.object(0, what), made[what]);
        }
        heap.collect();
        int[] collected = {1, addresses[keeper], 5, keeper == 2 ? 1 : 0, 0};
        for (int what = 0; what <= 4; what++) {
            due("collected, what = " + what, heap.object(0, what), collected[what]);
        }
    }

    private static void objectWrong(int keeper) {
        answers.sentence("4 whether it is REMEMBERED (1, 0). BAD; REFUSED.");
        KeptHeap heap = Answers.heapOf(keeper, 64, 2);
        for (int what = 0; what <= 4; what++) {
            due("none, what = " + what, heap.object(9, what), REFUSED);
            for (int wrong : Answers.WRONG_ROOTS) {
                due("no such root, what = " + what, heap.object(wrong, what), BAD);
            }
        }
        for (int wrong : new int[] {-1, 5, LEAST, MOST}) {
            due("what = " + wrong, heap.object(0, wrong), BAD);
            due("none, what = " + wrong, heap.object(9, wrong), BAD);
        }
    }

    private static void objectIsOld(int keeper) {
        answers.sentence("3 whether it is old (keeper 2: 1, 0; else 0), 4 whether it is REMEMBERED (1, 0)");
        KeptHeap heap = Answers.heapOf(keeper, 64, 2);
        due("a new one", heap.object(0, 3), 0);
        heap.collect();
        int yes = keeper == 2 ? 1 : 0;
        due("collected", heap.object(0, 3), yes);
        heap.make(1, 0);
        due("another new one", heap.object(1, 3), 0);
        due("not remembered", heap.object(0, 4), 0);
        heap.link(0, 0, 1);
        due("remembered", heap.object(0, 4), yes);
        due("whom it refers to is not", heap.object(1, 4), 0);
        heap.collect();
        due("remembered no more", heap.object(0, 4), 0);
        due("both are old", heap.object(1, 3), yes);
    }

    private static void at(int keeper) {
        answers.sentence("The NAME of the object that lies at a word; NONE. BAD: there is no such word.");
        KeptHeap heap = Answers.heapOf(keeper, 32, 1, 4);
        heap.drop(1);
        answers.dueWords("also of one that is not reached", heap, -1, BAD, 0, 1, 1, 1, 1, NONE);
        heap.collect();
        int[] addresses = {0, 16, 8};
        for (int word = 0; word < 32; word++) {
            due("collected, at(" + word + ")", heap.at(word), word == addresses[keeper] ? 0 : NONE);
        }
        for (int wrong : new int[] {-1, 32, LEAST, MOST}) {
            due("at(" + wrong + ")", heap.at(wrong), BAD);
        }
    }

    private static void count(int keeper) {
        answers.sentence("What = 0 objects that there are, 1 words that they have, 2 how many were made");
        KeptHeap heap = Answers.heapOf(keeper, 67, 3, 4, 1);
        heap.link(0, 1, 2);
        heap.drop(1);
        heap.drop(2);
        answers.dueCounts("made", heap, 3, 8, 3, 0, 0, 0, 0, 2, 64);
        heap.collect();
        int ages = keeper == 2 ? 1 : 0;
        int moves = keeper == 0 ? 0 : 2;
        answers.dueCounts("collected", heap, 2, 4, 3, 1, ages, moves, 0, 2, 64);
        heap.make(3, 6);
        heap.link(0, 0, 3);
        answers.dueCounts("linked", heap, 3, 11, 4, 1, ages, moves, ages, 3, 64);
        heap.minor();
        answers.dueCounts("MINOR", heap, 3, 11, 4, 1, 2 * ages, moves + ages, 0, 3, 64);
        heap.drop(0);
        answers.dueCounts("dropped", heap, 3, 11, 4, 1, 2 * ages, moves + ages, 0, 1, 64);
    }

    private static void countCollected(int keeper) {
        answers.sentence("3 times that it was collected (also where MINOR failed in it), 4 times that MINOR did not fail (also in these)");
        KeptHeap heap = new KeptHeap(keeper, 16);
        for (int i = 0; i < 5; i++) {
            heap.collect();
        }
        due("with nothing there", heap.count(3), 5);
        due("MINOR in these", heap.count(4), keeper == 2 ? 5 : 0);
        heap.minor();
        due("MINOR alone is not collecting", heap.count(3), 5);
        due("MINOR alone", heap.count(4), keeper == 2 ? 6 : 0);
        int room = keeper == 0 ? 4 : keeper == 1 ? 2 : 1;
        for (int i = 0; i < room; i++) {
            heap.make(0, 3);
        }
        due("not with room", heap.count(3), 5);
        heap.make(0, 3);
        due("to make room", heap.count(3), keeper == 2 ? 5 : 6);
        due("MINOR to make room", heap.count(4), keeper == 2 ? 7 : 0);
    }

    private static void countWhereMinorFailed() {
        answers.sentence("3 times that it was collected (also where MINOR failed in it), 4 times that MINOR did not fail (also in these)");
        KeptHeap heap = Answers.heapOf(2, 16, 4, 4, 4, 4);
        answers.dueCounts("three times MINOR", heap, 4, 16, 4, 0, 3, 3, 0, 4, 16);
        due("MINOR", heap.minor(), FULL);
        answers.dueCounts("it failed", heap, 4, 16, 4, 0, 3, 3, 0, 4, 16);
        due("collect", heap.collect(), FULL);
        answers.dueCounts("MINOR failed in it", heap, 4, 16, 4, 1, 3, 3, 0, 4, 16);
        due("make", heap.make(4, 0), FULL);
        answers.dueCounts("MINOR failed twice in it", heap, 4, 16, 4, 2, 3, 3, 0, 4, 16);
    }

    private static void countMoved(int keeper) {
        answers.sentence("5 how often objects came to another address");
        KeptHeap heap = Answers.heapOf(keeper, 64, 2, 2, 2);
        heap.drop(2);
        int[] first = {0, 2, 2};
        int[] second = {0, 4, 2};
        heap.collect();
        due("of three two that are reached", heap.count(5), first[keeper]);
        heap.collect();
        due("again", heap.count(5), second[keeper]);
        heap.make(3, 0);
        heap.minor();
        due("MINOR", heap.count(5), keeper == 2 ? 3 : second[keeper]);
        for (int root = 0; root < 4; root++) {
            heap.drop(root);
        }
        heap.collect();
        due("who goes does not count", heap.count(5), keeper == 2 ? 3 : second[keeper]);
    }

    private static void countWrong(int keeper) {
        answers.sentence("6 REMEMBERED ones, 7 objects that are reached, 8 W. BAD.");
        KeptHeap heap = new KeptHeap(keeper, 400);
        for (int wrong : new int[] {-1, 9, 10, LEAST, MOST}) {
            due("count(" + wrong + ")", heap.count(wrong), BAD);
        }
        answers.dueCounts("the others", heap, 0, 0, 0, 0, 0, 0, 0, 0, 400);
    }

    private static void same(int keeper) {
        answers.sentence("Whether a root's object and another root's one are one (1, 0); of two that refer to none 1. BAD.");
        KeptHeap heap = new KeptHeap(keeper, 64);
        due("two that refer to none", heap.same(0, 15), 1);
        due("none and itself", heap.same(0, 0), 1);
        heap.make(0, 1);
        due("the second refers to none", heap.same(0, 1), 0);
        due("the first refers to none", heap.same(1, 0), 0);
        due("an object and itself", heap.same(0, 0), 1);
        heap.make(1, 1);
        due("two alike", heap.same(0, 1), 0);
        heap.copy(2, 0);
        due("one object", heap.same(2, 0), 1);
        heap.collect();
        due("one object, collected", heap.same(2, 0), 1);
        due("two objects, collected", heap.same(2, 1), 0);
        for (int wrong : Answers.WRONG_ROOTS) {
            due("no such root and one", heap.same(wrong, 0), BAD);
            due("one and no such root", heap.same(0, wrong), BAD);
            due("none and no such root", heap.same(9, wrong), BAD);
            due("twice no such root", heap.same(wrong, wrong), BAD);
        }
    }

    private static void sumOfOne(int keeper) {
        answers.sentence("s at first 7, for each in turn s becomes 31 s and how many fields it has");
        KeptHeap heap = new KeptHeap(keeper, 64);
        heap.make(0, 0);
        due("no fields", heap.sum(0), 7 * 31);
        heap.make(0, 1);
        due("a field", heap.sum(0), (7 * 31 + 1) * 31);
        heap.make(0, 6);
        due("six fields", heap.sum(0), (7 * 31 + 6) * 31L * 31 * 31 * 31 * 31 * 31);
    }

    private static void sumOfFields(int keeper) {
        answers.sentence("then for each field 31 s and twice its number, or 31 s and twice the number of the object that it refers to and 1");
        KeptHeap heap = Answers.heapOf(keeper, 64, 2);
        int[] numbers = {1, -5, LEAST, MOST};
        for (int number : numbers) {
            heap.set(0, 0, number);
            due("twice the number " + number, heap.sum(0), (7 * 31 + 1) * 31 + 2L * number);
        }
        heap.link(0, 0, 0);
        due("twice its own number and 1", heap.sum(0), (7 * 31 + 1) * 31 + 1);
        heap.make(1, 0);
        heap.link(0, 0, 1);
        due("twice another's number and 1", heap.sum(0), ((7 * 31 + 1) * 31 + 3) * 31);
        due("what refers to it is not reached from it", heap.sum(1), 7 * 31);
    }

    /** Root 1's object refers to b, a, a; b to c; a to itself and b: in turn 0, b 1, a 2, c 3. */
    private static void sumOfFour(int keeper) {
        answers.sentence("the root's first, for each in turn those that its fields refer to, by their numbers, each once, numbered so from 0 on");
        KeptHeap heap = Answers.heapOf(keeper, 200, 1, 4, 3, 2, 7);
        int[][] links = {{1, 0, 3}, {1, 1, 2}, {1, 2, 2}, {3, 0, 4}, {2, 0, 2}, {2, 1, 3}};
        for (int[] link : links) {
            heap.link(link[0], link[1], link[2]);
        }
        heap.set(4, 5, 21);
        long s = 7;
        int[] parts = {3, 3, 5, 5, 1, 7, 2, 5, 3, 6, 0, 0, 0, 0, 0, 42};
        for (int part : parts) {
            s = 31 * s + part;
        }
        due("four objects", heap.sum(1), s);
        for (int root : new int[] {0, 2, 3, 4}) {
            heap.drop(root);
        }
        heap.collect();
        due("wherever they lie", heap.sum(1), s);
        due("a sum changes nothing", heap.sum(1), s);
        due("they are all reached", heap.count(7), 4);
    }

    /** As many objects as roots, each with six fields, the last of which refers to the next. */
    private static void sumThatRunsOver(int keeper) {
        answers.sentence("in 64 bits that run over");
        KeptHeap heap = new KeptHeap(keeper, 400);
        BigInteger s = BigInteger.valueOf(7);
        for (int root = 0; root < 16; root++) {
            heap.make(root, 6);
            heap.set(root, 0, root % 2 == 0 ? MOST - root : LEAST + root);
            if (root > 0) {
                heap.link(root - 1, 5, root);
            }
            long[] parts = {6, 2L * heap.number(root, 0), 0, 0, 0, 0, root < 15 ? 2L * (root + 1) + 1 : 0};
            for (long part : parts) {
                s = s.multiply(BigInteger.valueOf(31)).add(BigInteger.valueOf(part));
            }
        }
        due("sixteen objects", heap.sum(0), s.longValue());
        heap.collect();
        due("sixteen objects, collected", heap.sum(0), s.longValue());
    }

    private static void sumOfNone(int keeper) {
        answers.sentence("0 if it refers to none");
        KeptHeap heap = new KeptHeap(keeper, 64);
        due("none", heap.sum(0), 0);
        heap.make(0, 1);
        heap.drop(0);
        due("none any more", heap.sum(0), 0);
        answers.sentence("BAD (here -2): no such root.");
        for (int wrong : Answers.WRONG_ROOTS) {
            due("sum(" + wrong + ")", heap.sum(wrong), BAD);
        }
    }
}
