import java.util.Map;

/** The sentences of the section Terms that speak of keeper 0, one by one. */
public final class SweepTest {
    private static final Answers answers = new Answers("SweepTest");
    private static final int NONE = -1;
    private static final int REFUSED = -3;
    private static final int FULL = -4;

    public static void main(String[] args) {
        leastAddress();
        leastAddressBeforeBetterGaps();
        wordsSideBySide();
        firstAndLastWordAreNotSideBySide();
        freeIsOfNoObject();
        collecting();
        collectingAllOrNothing();
        nothingComesToAnotherAddress();
        makingWithRoom();
        makingCollects();
        makingIsFull();
        makingForARootThatRefers();
        answers.end();
    }

    private static void due(String call, long got, long want) {
        answers.due(call, got, want);
    }

    /** Gaps of 3, 4, 3 and 9 words at 2, 6, 11 and 15. */
    private static void leastAddress() {
        answers.sentence("an object comes to the least address from which on enough words are FREE");
        KeptHeap heap = Answers.heapOf(0, 24, 2, 3, 1, 4, 1, 3, 1);
        heap.drop(1);
        heap.drop(3);
        heap.drop(5);
        due("three go", heap.collect(), 3);
        answers.dueMade("behind a gap that is one too small, into one that is just enough", heap, 7, 4, 6);
        answers.dueMade("into the first of two gaps that are just enough", heap, 8, 3, 2);
        answers.dueMade("into a gap that is larger", heap, 9, 1, 11);
        answers.dueMade("into the rest of it", heap, 10, 2, 12);
        answers.dueMade("behind all", heap, 11, 7, 15);
        answers.dueMade("up to the last word", heap, 12, 2, 22);
        due("without collecting again", heap.count(3), 1);
        due("no word is free", heap.count(1), 24);
    }

    /** Gaps of 5, 4 and 3 words at 1, 7 and 12. */
    private static void leastAddressBeforeBetterGaps() {
        answers.sentence("an object comes to the least address from which on enough words are FREE");
        KeptHeap heap = Answers.heapOf(0, 24, 1, 5, 1, 4, 1, 3, 1);
        heap.drop(1);
        heap.drop(3);
        heap.drop(5);
        due("three go", heap.collect(), 3);
        answers.dueMade("though the second gap is just enough", heap, 7, 4, 1);
        answers.dueMade("though the third gap is just enough", heap, 8, 3, 7);
        answers.dueMade("into the rest of the first", heap, 9, 1, 5);
        answers.dueMade("into the rest of the second", heap, 10, 1, 10);
    }

    private static void wordsSideBySide() {
        answers.sentence("from which on enough words are FREE");
        KeptHeap heap = Answers.heapOf(0, 16, 2, 2, 2, 2, 2, 2, 2, 2);
        heap.drop(1);
        heap.drop(3);
        heap.drop(5);
        heap.drop(6);
        due("four go", heap.collect(), 4);
        due("eight words are free, but no five of them side by side", heap.make(8, 4), FULL);
        due("so it was collected for room", heap.count(3), 2);
        answers.dueMade("two gaps side by side are one", heap, 8, 4, 10);
        due("four are free, but no three of them side by side", heap.make(9, 2), FULL);
        answers.dueMade("two are", heap, 9, 2, 2);
    }

    private static void firstAndLastWordAreNotSideBySide() {
        answers.sentence("from which on enough words are FREE");
        KeptHeap heap = Answers.heapOf(0, 16, 1, 7, 7, 1);
        heap.drop(0);
        heap.drop(3);
        due("the last word and the first", heap.make(4, 1), FULL);
        due("both are free", heap.count(1), 14);
        answers.dueMade("the first", heap, 4, 1, 0);
        answers.dueMade("the last", heap, 5, 1, 15);
    }

    private static void freeIsOfNoObject() {
        answers.sentence("FREE (of no object)");
        KeptHeap heap = Answers.heapOf(0, 16, 3, 2);
        heap.drop(0);
        answers.dueMade("behind one that is not reached but there", heap, 2, 3, 5);
        due("it is there", heap.at(0), 0);
        heap.collect();
        answers.dueMade("at its place when it went", heap, 3, 3, 0);
    }

    private static void collecting() {
        answers.sentence("TO COLLECT: all objects that are not reached go.");
        KeptHeap heap = Answers.heapOf(0, 32, 2, 3, 2, 3, 1, 4);
        heap.link(0, 0, 3);
        heap.link(1, 0, 2);
        heap.link(2, 0, 1);
        for (int root = 1; root <= 4; root++) {
            heap.drop(root);
        }
        due("a ring and one alone", heap.collect(), 3);
        answers.dueWords("collected", heap, 0, 0, 0, NONE, NONE, NONE, NONE, NONE, 3, 3, 3, NONE, 5, 5, 5, 5, NONE);
        answers.dueCounts("collected", heap, 3, 9, 6, 1, 0, 0, 0, 3, 32);
        due("at once again", heap.collect(), 0);
        answers.dueCounts("collected again", heap, 3, 9, 6, 2, 0, 0, 0, 3, 32);
    }

    private static void collectingAllOrNothing() {
        answers.sentence("TO COLLECT: all objects that are not reached go.");
        KeptHeap heap = Answers.heapOf(0, 16, 7, 7, 1, 1);
        due("a full heap of which all are reached", heap.collect(), 0);
        for (int root = 0; root < 4; root++) {
            heap.drop(root);
        }
        due("a full heap of which none is reached", heap.collect(), 4);
        answers.dueCounts("all went", heap, 0, 0, 4, 2, 0, 0, 0, 0, 16);
        answers.dueMade("from the first word on", heap, 0, 7, 0);
    }

    private static void nothingComesToAnotherAddress() {
        answers.sentence("TO COLLECT: all objects that are not reached go.");
        KeptHeap heap = Answers.heapOf(0, 16, 3, 3, 3);
        heap.drop(0);
        heap.collect();
        due("the second stays", heap.object(1, 1), 3);
        due("the third stays", heap.object(2, 1), 6);
        due("none came to another address", heap.count(5), 0);
    }

    private static void makingWithRoom() {
        answers.sentence("for keepers 0 and 1 TO COLLECT");
        KeptHeap heap = Answers.heapOf(0, 16, 7, 7);
        heap.drop(0);
        answers.dueMade("just room for it", heap, 2, 2, 14);
        due("so it is not collected", heap.count(3), 0);
        due("who is not reached is there", heap.at(0), 0);
    }

    private static void makingCollects() {
        answers.sentence("for keepers 0 and 1 TO COLLECT");
        KeptHeap heap = Answers.heapOf(0, 16, 7, 4, 5);
        heap.drop(1);
        answers.dueMade("one word that is not free at first", heap, 3, 4, 7);
        due("it was collected, once", heap.count(3), 1);
        due("one went", heap.count(0), 3);
        due("it is the fourth that was made", heap.object(3, 0), 3);
    }

    private static void makingIsFull() {
        answers.sentence("if there is no room then either, it is FULL: what was collected stays so, and nothing else is done");
        KeptHeap heap = Answers.heapOf(0, 16, 7, 4, 5);
        heap.drop(1);
        due("a gap that is one too small", heap.make(3, 4), FULL);
        due("who was not reached is gone", heap.at(7), NONE);
        answers.dueCounts("FULL", heap, 2, 12, 3, 1, 0, 0, 0, 2, 16);
        due("the root refers to none still", heap.object(3, 0), REFUSED);
        Map<String, Long> before = Look.at(heap);
        due("FULL again", heap.make(3, 4), FULL);
        due("it was collected again, once", heap.count(3), 2);
        answers.dueUnchanged("FULL again", heap, before, "count(3)");
        answers.dueMade("a gap that is just enough", heap, 3, 4, 7);
    }

    private static void makingForARootThatRefers() {
        answers.sentence("Else the root refers to it.");
        KeptHeap heap = Answers.heapOf(0, 16, 7, 7);
        due("what the root refers to is reached till then", heap.make(0, 6), FULL);
        due("it refers to it still", heap.object(0, 0), 0);
        due("with room", heap.make(0, 1), 2);
        due("it refers to the new one", heap.object(0, 0), 2);
        due("the one before is not reached", heap.collect(), 1);
    }
}
