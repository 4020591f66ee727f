import java.util.Map;

/** The sentences of the section Terms that speak of keeper 2, one by one. */
public final class AgeTest {
    private static final Answers answers = new Answers("AgeTest");
    private static final int NONE = -1;
    private static final int BAD = -2;
    private static final int REFUSED = -3;
    private static final int FULL = -4;

    public static void main(String[] args) {
        for (int w : new int[] {16, 19, 20, 24, 28, 36, 400}) {
            youngWords(w, w / 4);
        }
        oldWords();
        behindTheLatest();
        behindTheLatestWhereMinorFailed();
        remembered();
        rememberedOnlyByLink();
        rememberedUntilMinor();
        minorTakesRootsByNumbers();
        minorTakesRememberedByAddresses();
        minorTakesFieldsInTurn();
        minorTakesEachOnce();
        minorTakesTheLeastAddress();
        minorLetsOthersGo();
        minorForgets();
        minorWithJustEnoughRoom();
        minorFailsWithTheFirst();
        minorFailsWithTheLast();
        minorFailsThoughWordsAreEnough();
        minorFailsThoughAnotherOrderWouldDo();
        minorFailsThoughYoungWordsAreFree();
        minorFailsThoughOldOnesAreNotReached();
        collectOldThatAreNotReached();
        collectByYoungOnes();
        collectRememberedThatDidNotGo();
        collectWhatRememberedHeld();
        collectWithNothing();
        collectFails();
        oldOneThatIsNotReachedHolds();
        makingWithRoom();
        makingByMinor();
        makingByCollecting();
        makingIsFull();
        for (int w : new int[] {16, 20, 24}) {
            makingTooLarge(w, w / 4);
        }
        makingNeverTooLarge();
        makingForARootThatRefers();
        answers.end();
    }

    private static void due(String call, long got, long want) {
        answers.due(call, got, want);
    }

    /** A heap whose old part has the objects of roots 0, 1, .. one behind the other. */
    private static KeptHeap oldHeapOf(int w, int... sizes) {
        KeptHeap heap = new KeptHeap(2, w);
        for (int root = 0; root < sizes.length; root++) {
            heap.make(root, sizes[root] - 1);
            heap.minor();
        }
        return heap;
    }

    /** One word each, and only the latest is reached. */
    private static void youngWords(int w, int young) {
        answers.sentence("the first W / 4 words are for the YOUNG");
        KeptHeap heap = new KeptHeap(2, w);
        for (int word = 0; word < young; word++) {
            answers.dueMade("young of " + w, heap, 0, 1, word);
        }
        due("the last of these words", heap.object(0, 3), 0);
        due("no MINOR up to there", heap.count(4), 0);
        answers.dueMade("one more", heap, 1, 1, 0);
        due("by MINOR", heap.count(4), 1);
        due("is young", heap.object(1, 3), 0);
        due("the one before is at the first old word", heap.object(0, 1), young);
        due("is old", heap.object(0, 3), 1);
    }

    private static void oldWords() {
        answers.sentence("the others for the OLD");
        KeptHeap heap = oldHeapOf(16, 4, 4, 4);
        answers.dueWords("from the first old word to the last", heap, 3, NONE, 0, 0, 0, 0, 1, 1, 1, 1, 2, 2, 2, 2);
        for (int root = 0; root < 3; root++) {
            due("old " + root, heap.object(root, 3), 1);
        }
        heap.make(3, 0);
        due("no word is left", heap.minor(), FULL);
    }

    private static void behindTheLatest() {
        answers.sentence("An object comes among the young, behind the latest one there.");
        KeptHeap heap = Answers.heapOf(2, 32, 2, 3);
        heap.drop(0);
        answers.dueMade("not where one lies that is not reached", heap, 2, 1, 5);
        heap.drop(2);
        answers.dueMade("behind the latest, though that is not reached", heap, 3, 1, 6);
        due("MINOR", heap.minor(), 2);
        answers.dueMade("from the first word on after MINOR", heap, 4, 2, 0);
        heap.collect();
        answers.dueMade("from the first word on after TO COLLECT", heap, 5, 2, 0);
        heap.drop(0);
        heap.collect();
        answers.dueMade("among the young, though old words are free", heap, 6, 1, 0);
    }

    private static void behindTheLatestWhereMinorFailed() {
        answers.sentence("An object comes among the young, behind the latest one there.");
        KeptHeap heap = oldHeapOf(16, 4, 4, 4);
        answers.dueMade("the first word", heap, 3, 1, 0);
        due("MINOR", heap.minor(), FULL);
        answers.dueMade("after MINOR that failed", heap, 4, 2, 1);
        heap.drop(4);
        due("TO COLLECT", heap.collect(), FULL);
        answers.dueMade("after TO COLLECT where MINOR failed", heap, 5, 1, 3);
        answers.dueWords("all lie there still", heap, 0, 3, 4, 4, 5);
    }

    private static void remembered() {
        answers.sentence("An old object that comes to refer to a young one is REMEMBERED.");
        KeptHeap heap = Answers.heapOf(2, 64, 3, 3);
        heap.link(0, 0, 1);
        due("young to young", heap.count(6), 0);
        heap.minor();
        heap.link(0, 1, 1);
        heap.link(0, 1, 0);
        due("old to old, and to itself", heap.count(6), 0);
        heap.make(2, 1);
        heap.link(2, 0, 0);
        due("young to old", heap.count(6), 0);
        heap.set(0, 1, 3);
        due("a number", heap.count(6), 0);
        heap.link(0, 0, 2);
        due("old to young", heap.object(0, 4), 1);
        due("not the young one", heap.object(2, 4), 0);
        due("not another old one", heap.object(1, 4), 0);
        heap.link(0, 1, 2);
        due("by two fields, once", heap.count(6), 1);
        heap.link(1, 1, 2);
        due("two", heap.count(6), 2);
        due("the other too", heap.object(1, 4), 1);
    }

    private static void rememberedOnlyByLink() {
        answers.sentence("An old object that comes to refer to a young one is REMEMBERED.");
        KeptHeap heap = oldHeapOf(64, 2);
        due("link to none", heap.link(0, 0, 5), REFUSED);
        heap.make(1, 1);
        heap.link(1, 0, 1);
        heap.load(2, 1, 0);
        heap.copy(3, 0);
        heap.copy(4, 1);
        due("link with a field that it has not", heap.link(0, 1, 1), BAD);
        due("load, copy and what is not done", heap.count(6), 0);
        heap.link(3, 0, 4);
        due("link by other roots", heap.object(0, 4), 1);
        for (int keeper = 0; keeper <= 1; keeper++) {
            KeptHeap other = Answers.heapOf(keeper, 64, 2);
            other.collect();
            other.make(1, 0);
            other.link(0, 0, 1);
            due("none of keeper " + keeper, other.object(0, 4), 0);
            due("none at all", other.count(6), 0);
        }
    }

    private static void rememberedUntilMinor() {
        answers.sentence("nothing is remembered any more");
        KeptHeap heap = oldHeapOf(64, 3, 2);
        heap.make(2, 0);
        heap.link(0, 0, 2);
        heap.link(1, 0, 2);
        heap.set(0, 0, 1);
        heap.link(1, 0, 0);
        due("though it refers to no young one any more", heap.count(6), 2);
        heap.drop(0);
        due("though it is not reached from its root", heap.count(6), 2);
        heap.drop(2);
        due("it holds none", heap.minor(), 1);
        due("none is after MINOR", heap.count(6), 0);
        due("nor this one", heap.object(1, 4), 0);
    }

    private static void minorTakesRootsByNumbers() {
        answers.sentence("MINOR: those young ones go over to the old that roots refer to, by their numbers");
        KeptHeap heap = new KeptHeap(2, 128);
        for (int root = 15; root >= 0; root--) {
            heap.make(root, root % 2);
        }
        due("none goes", heap.minor(), 0);
        int address = 32;
        for (int root = 0; root < 16; root++) {
            due("root " + root, heap.object(root, 1), address);
            due("old " + root, heap.object(root, 3), 1);
            address += 1 + root % 2;
        }
        due("each came to another address", heap.count(5), 16);
    }

    /**
     * The remembered are 1 at 20 and 0 at 23: their names, their roots and the order in which they
     * came to be remembered all say 0 first.
     */
    private static void minorTakesRememberedByAddresses() {
        answers.sentence("then those to which fields of remembered ones refer, by addresses of these, by fields");
        KeptHeap heap = new KeptHeap(2, 80);
        heap.make(1, 2);
        heap.make(0, 2);
        heap.minor();
        heap.copy(4, 1);
        heap.copy(5, 0);
        for (int root = 0; root < 4; root++) {
            heap.make(root, 0);
        }
        heap.link(4, 1, 0);
        heap.link(4, 0, 1);
        heap.link(5, 1, 2);
        heap.link(5, 0, 3);
        for (int root = 0; root < 4; root++) {
            heap.drop(root);
        }
        heap.make(15, 0);
        due("none goes", heap.minor(), 0);
        answers.dueWords("a root's first, then by addresses, by fields", heap, 20, 1, 1, 1, 0, 0, 0, 6, 5, 4, 3, 2, NONE);
    }

    /** Root 0 has 1, old 0 has 2; 1 refers to 4 and 3, 2 to 3 and 5; 4 to 6. */
    private static void minorTakesFieldsInTurn() {
        answers.sentence("then, for each that went over in turn, by fields");
        KeptHeap heap = oldHeapOf(80, 2);
        heap.copy(9, 0);
        int[] fields = {2, 2, 0, 1, 0, 0};
        for (int i = 0; i < fields.length; i++) {
            heap.make(i, fields[i]);
        }
        int[][] links = {{9, 0, 1}, {0, 1, 2}, {0, 0, 3}, {1, 1, 4}, {1, 0, 2}, {3, 0, 5}};
        for (int[] link : links) {
            heap.link(link[0], link[1], link[2]);
        }
        for (int root = 1; root < fields.length; root++) {
            heap.drop(root);
        }
        due("none goes", heap.minor(), 0);
        answers.dueWords("in turn", heap, 20, 0, 0, 1, 1, 1, 2, 2, 2, 4, 4, 3, 5, 6, NONE);
    }

    private static void minorTakesEachOnce() {
        answers.sentence("each once");
        KeptHeap heap = oldHeapOf(64, 3, 2);
        heap.make(2, 2);
        heap.make(3, 1);
        heap.copy(8, 2);
        heap.link(0, 0, 2);
        heap.link(0, 1, 2);
        heap.link(1, 0, 3);
        heap.link(2, 0, 2);
        heap.link(2, 1, 3);
        heap.link(3, 0, 2);
        due("none goes", heap.minor(), 0);
        answers.dueWords("each once", heap, 16, 0, 0, 0, 1, 1, 2, 2, 2, 3, 3, NONE);
        answers.dueCounts("each once", heap, 4, 10, 4, 0, 3, 4, 0, 4, 64);
        due("two roots have one object", heap.same(8, 2), 1);
        due("a field has it", heap.load(9, 0, 1), 2);
        due("at its address", heap.object(9, 1), 21);
    }

    /** Gaps of 2 and 4 words at 16 and 20. */
    private static void minorTakesTheLeastAddress() {
        answers.sentence("to the least old address from which on enough words are free");
        KeptHeap heap = oldHeapOf(64, 2, 2, 4, 2);
        heap.drop(0);
        heap.drop(2);
        due("two go", heap.collect(), 2);
        int[] sizes = {3, 1, 2, 1, 1};
        for (int i = 0; i < sizes.length; i++) {
            heap.make(4 + i, sizes[i] - 1);
        }
        due("none goes", heap.minor(), 0);
        due("behind a gap that is one too small", heap.object(4, 1), 20);
        due("into the first gap", heap.object(5, 1), 16);
        due("behind all", heap.object(6, 1), 26);
        due("into the rest of the first gap", heap.object(7, 1), 17);
        due("into the rest of the second", heap.object(8, 1), 23);
        due("others stay", heap.object(1, 1), 18);
    }

    private static void minorLetsOthersGo() {
        answers.sentence("all other young ones go");
        KeptHeap heap = oldHeapOf(64, 2);
        for (int root = 1; root <= 5; root++) {
            heap.make(root, 1);
        }
        heap.link(1, 0, 2);
        heap.link(3, 0, 4);
        heap.link(4, 0, 3);
        heap.link(5, 0, 0);
        for (int root = 2; root <= 5; root++) {
            heap.drop(root);
        }
        heap.drop(0);
        due("a ring and one that refers to an old one", heap.minor(), 3);
        answers.dueCounts("an old one that is not reached is there", heap, 3, 6, 6, 0, 2, 3, 0, 2, 64);
        answers.dueWords("no young ones are left", heap, 0, NONE, NONE, NONE, NONE, NONE, NONE, NONE, NONE, NONE, NONE);
        due("then none goes", heap.minor(), 0);
        heap.drop(1);
        due("no old one goes", heap.minor(), 0);
        due("they are there", heap.count(0), 3);
    }

    private static void minorForgets() {
        answers.sentence("nothing is remembered any more");
        KeptHeap heap = oldHeapOf(64, 3);
        heap.make(1, 0);
        heap.link(0, 0, 1);
        heap.drop(1);
        due("it is held", heap.minor(), 0);
        due("the field refers to it", heap.load(2, 0, 0), 1);
        due("it is old", heap.object(2, 3), 1);
        due("not remembered", heap.object(0, 4), 0);
        heap.drop(2);
        heap.make(1, 0);
        heap.link(0, 1, 1);
        due("remembered again", heap.object(0, 4), 1);
        heap.drop(1);
        due("held again", heap.minor(), 0);
    }

    private static void minorWithJustEnoughRoom() {
        answers.sentence("If one of them would find no room, nothing is done (it FAILS).");
        KeptHeap heap = oldHeapOf(16, 4, 4, 2);
        heap.make(3, 0);
        heap.make(4, 0);
        heap.make(5, 1);
        heap.drop(5);
        due("two words, for two of three", heap.minor(), 1);
        answers.dueWords("to the last word", heap, 13, 2, 3, 4);
        due("all old words are taken", heap.count(1), 12);
        heap.make(5, 3);
        heap.drop(5);
        due("who goes needs no room", heap.minor(), 1);
    }

    private static void minorFailsWithTheFirst() {
        answers.sentence("If one of them would find no room, nothing is done (it FAILS).");
        KeptHeap heap = oldHeapOf(16, 4, 4, 3);
        heap.make(3, 1);
        heap.make(4, 0);
        heap.drop(4);
        heap.link(0, 0, 3);
        Map<String, Long> before = Look.at(heap);
        due("one word is free for two", heap.minor(), FULL);
        answers.dueUnchanged("MINOR failed", heap, before);
    }

    private static void minorFailsWithTheLast() {
        answers.sentence("If one of them would find no room, nothing is done (it FAILS).");
        KeptHeap heap = oldHeapOf(16, 4, 4, 2);
        heap.make(3, 0);
        heap.make(4, 0);
        heap.make(5, 1);
        heap.link(4, 0, 3);
        heap.link(0, 0, 5);
        heap.drop(5);
        Map<String, Long> before = Look.at(heap);
        due("the last has no room", heap.minor(), FULL);
        answers.dueUnchanged("MINOR failed", heap, before);
        heap.drop(3);
        heap.drop(4);
        due("the last alone", heap.minor(), 2);
        due("it goes over", heap.at(14), 5);
        due("remembered no more", heap.object(0, 4), 0);
    }

    private static void minorFailsThoughWordsAreEnough() {
        answers.sentence("If one of them would find no room");
        KeptHeap heap = oldHeapOf(16, 2, 2, 2, 2, 2, 2);
        heap.drop(1);
        heap.drop(3);
        heap.drop(5);
        due("three gaps", heap.collect(), 3);
        heap.make(6, 2);
        due("six words are free, but no three of them side by side", heap.minor(), FULL);
        heap.drop(6);
        due("who goes needs none", heap.minor(), 1);
        heap.make(6, 0);
        heap.make(7, 1);
        due("room for smaller ones", heap.minor(), 0);
        answers.dueWords("in the gaps", heap, 6, 7, NONE, 2, 2, 8, 8, 4, 4, NONE, NONE);
    }

    /** Gaps of 3 and 2 words at 5 and 13. */
    private static void minorFailsThoughAnotherOrderWouldDo() {
        answers.sentence("each once, to the least old address from which on enough words are free");
        KeptHeap heap = oldHeapOf(20, 3, 5, 2, 5);
        heap.drop(0);
        heap.drop(2);
        due("two gaps", heap.collect(), 2);
        heap.make(4, 1);
        heap.make(5, 2);
        due("the first takes words that the second would need", heap.minor(), FULL);
        heap.copy(6, 4);
        heap.drop(4);
        due("in another order", heap.minor(), 0);
        due("the first gap", heap.object(5, 1), 5);
        due("the second", heap.object(6, 1), 13);
    }

    /** Words 3, 4 and 5 are free side by side, but 3 is not old; nor do the last and the first join. */
    private static void minorFailsThoughYoungWordsAreFree() {
        answers.sentence("to the least old address from which on enough words are free");
        KeptHeap heap = oldHeapOf(16, 2, 2, 2, 2, 2, 2);
        heap.drop(0);
        heap.drop(5);
        due("the first old words and the last", heap.collect(), 2);
        heap.make(6, 2);
        due("three words", heap.minor(), FULL);
        due("three words, collecting", heap.collect(), FULL);
        heap.drop(1);
        due("with two more", heap.collect(), 1);
        due("from the first old word on", heap.object(6, 1), 4);
    }

    private static void minorFailsThoughOldOnesAreNotReached() {
        answers.sentence("If one of them would find no room, nothing is done (it FAILS).");
        KeptHeap heap = oldHeapOf(16, 4, 4, 4);
        heap.drop(1);
        heap.make(3, 3);
        due("an old one that is not reached takes its words", heap.minor(), FULL);
        due("it is there", heap.at(8), 1);
        due("not counted", heap.count(4), 3);
        due("not collected", heap.count(3), 0);
        due("till it is collected", heap.collect(), 1);
        due("at its place", heap.object(3, 1), 8);
    }

    private static void collectOldThatAreNotReached() {
        answers.sentence("TO COLLECT: old objects that are not reached go, then MINOR");
        KeptHeap heap = oldHeapOf(64, 2, 3, 3, 2);
        heap.link(1, 0, 2);
        heap.link(2, 0, 1);
        heap.make(4, 0);
        heap.make(5, 1);
        heap.drop(4);
        heap.drop(1);
        heap.drop(2);
        due("an old ring and a young one", heap.collect(), 3);
        answers.dueWords("the gap is filled", heap, 16, 0, 0, 5, 5, NONE, NONE, NONE, NONE, 3, 3, NONE);
        answers.dueCounts("collected", heap, 3, 6, 6, 1, 5, 5, 0, 3, 64);
    }

    private static void collectByYoungOnes() {
        answers.sentence("TO COLLECT: old objects that are not reached go, then MINOR");
        KeptHeap heap = oldHeapOf(64, 2, 2);
        heap.make(2, 1);
        heap.make(3, 1);
        heap.link(2, 0, 0);
        heap.link(3, 0, 1);
        heap.drop(0);
        heap.drop(1);
        heap.drop(3);
        due("a young one that is not reached, and whom it refers to", heap.collect(), 2);
        due("whom a young one refers to that is reached stays", heap.load(0, 2, 0), 0);
        due("at its address", heap.object(0, 1), 16);
        due("the young one comes to the gap", heap.object(2, 1), 18);
    }

    private static void collectRememberedThatDidNotGo() {
        answers.sentence("then MINOR (in which remembered are only those that did not go)");
        KeptHeap heap = oldHeapOf(16, 4, 4, 4);
        heap.make(3, 1);
        heap.make(4, 1);
        heap.link(0, 0, 3);
        heap.link(1, 0, 4);
        heap.drop(3);
        heap.drop(4);
        heap.drop(0);
        due("two are remembered", heap.count(6), 2);
        due("one of them goes, and the young one that it held", heap.collect(), 2);
        due("the other held its own", heap.load(4, 1, 0), 4);
        due("at the place of who went", heap.object(4, 1), 4);
        answers.dueCounts("collected", heap, 3, 10, 5, 1, 4, 4, 0, 3, 16);
    }

    /** The young one that 0 holds refers to 1: none of the three is reached. */
    private static void collectWhatRememberedHeld() {
        answers.sentence("old objects that are not reached go, then MINOR (in which remembered are only those that did not go)");
        KeptHeap heap = oldHeapOf(64, 3, 2, 2);
        heap.make(3, 1);
        heap.link(0, 0, 3);
        heap.link(3, 0, 1);
        heap.link(0, 1, 2);
        for (int root = 0; root < 4; root++) {
            heap.drop(root);
        }
        due("it is remembered", heap.count(6), 1);
        due("all that it held goes too", heap.collect(), 4);
        answers.dueCounts("nothing is left", heap, 0, 0, 4, 1, 4, 3, 0, 0, 64);
    }

    private static void collectWithNothing() {
        answers.sentence("TO COLLECT: old objects that are not reached go, then MINOR");
        KeptHeap heap = new KeptHeap(2, 16);
        due("nothing goes", heap.collect(), 0);
        due("nothing goes again", heap.collect(), 0);
        answers.dueCounts("MINOR in each", heap, 0, 0, 0, 2, 2, 0, 0, 0, 16);
    }

    /** Old words are full; 2 goes, but its gap is too small for 6, and 7 is young and not reached. */
    private static void collectFails() {
        answers.sentence("FULL: MINOR failed (what went stays gone)");
        KeptHeap heap = oldHeapOf(16, 2, 2, 2, 2, 2, 2);
        heap.make(6, 2);
        heap.make(7, 0);
        heap.link(1, 0, 6);
        heap.link(2, 0, 6);
        heap.drop(7);
        heap.drop(2);
        due("no room", heap.collect(), FULL);
        answers.dueWords("who went, and the young", heap, 0, 6, 6, 6, 7, 0, 0, 1, 1, NONE, NONE, 3, 3, 4, 4, 5, 5);
        answers.dueCounts("collected, but MINOR not counted", heap, 7, 14, 8, 1, 6, 6, 1, 6, 16);
        due("who did not go is remembered", heap.object(1, 4), 1);
        Map<String, Long> before = Look.at(heap);
        due("no room again", heap.collect(), FULL);
        answers.dueUnchanged("nothing more went", heap, before, "count(3)");
        heap.drop(3);
        due("with room", heap.collect(), 2);
        due("side by side", heap.object(6, 1), 8);
    }

    private static void oldOneThatIsNotReachedHolds() {
        answers.sentence("(An old object that is not reached may hold young ones alive by MINOR.)");
        KeptHeap heap = oldHeapOf(64, 2);
        heap.make(1, 1);
        heap.make(2, 0);
        heap.link(1, 0, 2);
        heap.link(0, 0, 1);
        for (int root = 0; root < 3; root++) {
            heap.drop(root);
        }
        due("nothing is reached", heap.count(7), 0);
        due("none goes", heap.minor(), 0);
        answers.dueWords("all are old", heap, 16, 0, 0, 1, 1, 2, NONE);
        due("till they are collected", heap.collect(), 3);
    }

    private static void makingWithRoom() {
        answers.sentence("if there is no room for it (of keeper 1 behind the latest one of the half, of keeper 2 behind the latest young one)");
        KeptHeap heap = Answers.heapOf(2, 32, 4);
        heap.drop(0);
        answers.dueMade("just room for it", heap, 1, 4, 4);
        due("no MINOR", heap.count(4), 0);
        due("who is not reached is there", heap.at(0), 0);
    }

    private static void makingByMinor() {
        answers.sentence("for keeper 2, if it has not more words than the young have at all, MINOR");
        KeptHeap heap = Answers.heapOf(2, 32, 4, 2);
        heap.drop(0);
        answers.dueMade("one word too many behind the latest", heap, 2, 3, 0);
        answers.dueCounts("MINOR, not collected", heap, 2, 5, 3, 0, 1, 1, 0, 2, 32);
        due("the one before went over", heap.object(1, 1), 8);
        heap.drop(1);
        answers.dueMade("one word too many again", heap, 3, 6, 0);
        due("an old one that is not reached is there", heap.at(8), 1);
        due("not collected", heap.count(3), 0);
    }

    private static void makingByCollecting() {
        answers.sentence("and, if that fails, TO COLLECT");
        KeptHeap heap = oldHeapOf(16, 4, 4, 4);
        heap.make(3, 3);
        heap.drop(1);
        answers.dueMade("MINOR fails", heap, 4, 1, 0);
        answers.dueCounts("collected, MINOR in it", heap, 4, 13, 5, 1, 4, 4, 0, 4, 16);
        due("at the place of who went", heap.object(3, 1), 8);
    }

    private static void makingIsFull() {
        answers.sentence("if there is no room then either, it is FULL: what was collected stays so, and nothing else is done");
        KeptHeap heap = oldHeapOf(16, 2, 2, 2, 2, 2, 2);
        heap.make(6, 3);
        heap.drop(2);
        due("MINOR and TO COLLECT fail", heap.make(7, 0), FULL);
        due("who was not reached is gone", heap.at(8), NONE);
        answers.dueCounts("collected once, no MINOR", heap, 6, 14, 7, 1, 6, 6, 0, 6, 16);
        due("the root refers to none still", heap.object(7, 0), REFUSED);
        Map<String, Long> before = Look.at(heap);
        due("FULL again", heap.make(0, 0), FULL);
        due("collected again, once", heap.count(3), 2);
        answers.dueUnchanged("FULL again", heap, before, "count(3)");
        heap.drop(3);
        due("with room", heap.make(7, 0), 7);
    }

    /** Nothing is done for it, whether the young words are free or not. */
    private static void makingTooLarge(int w, int young) {
        answers.sentence("if it has not more words than the young have at all");
        KeptHeap heap = new KeptHeap(2, w);
        due("one word too many for free words", heap.make(0, young), FULL);
        answers.dueCounts("nothing is done", heap, 0, 0, 0, 0, 0, 0, 0, 0, w);
        heap.make(0, young - 1);
        heap.drop(0);
        Map<String, Long> before = Look.at(heap);
        due("one word too many", heap.make(1, young), FULL);
        due("the most fields", heap.make(1, 6), FULL);
        answers.dueUnchanged("nothing is done", heap, before);
        answers.dueMade("just as many words", heap, 1, young, 0);
        answers.dueCounts("MINOR", heap, 1, young, 2, 0, 1, 0, 0, 1, w);
    }

    private static void makingNeverTooLarge() {
        answers.sentence("if it has not more words than the young have at all");
        KeptHeap heap = new KeptHeap(2, 28);
        answers.dueMade("seven words of seven", heap, 0, 7, 0);
        answers.dueMade("and again", heap, 1, 7, 0);
        answers.dueMade("and again", heap, 2, 7, 0);
        answers.dueMade("and again", heap, 3, 7, 0);
        due("all words are taken", heap.count(1), 28);
        due("no more", heap.make(4, 6), FULL);
    }

    private static void makingForARootThatRefers() {
        answers.sentence("Else the root refers to it.");
        KeptHeap heap = Answers.heapOf(2, 16, 4);
        due("what the root refers to is reached till then", heap.make(0, 3), 1);
        due("so it went over", heap.at(4), 0);
        due("the root refers to the new one", heap.object(0, 0), 1);
        due("the one before is not reached", heap.count(7), 1);
        due("so it goes", heap.collect(), 1);
    }
}
