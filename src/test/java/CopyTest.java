import java.util.Map;

/** The sentences of the section Terms that speak of keeper 1, one by one. */
public final class CopyTest {
    private static final Answers answers = new Answers("CopyTest");
    private static final int NONE = -1;
    private static final int REFUSED = -3;
    private static final int FULL = -4;

    public static void main(String[] args) {
        for (int w : new int[] {16, 20, 28, 36, 400}) {
            twoHalves(w);
        }
        behindTheLatest();
        behindThoseCopied();
        theOtherHalf();
        rootsByNumbers();
        fieldsInTurn();
        eachOnce();
        allOthersGo();
        fullHalf();
        makingWithRoom();
        makingCollects();
        makingIsFull();
        makingForARootThatRefers();
        answers.end();
    }

    private static void due(String call, long got, long want) {
        answers.due(call, got, want);
    }

    /** One word each, and only the latest is reached. */
    private static void twoHalves(int w) {
        answers.sentence("words are two halves of W / 2 (one is in use, the first at first)");
        KeptHeap heap = new KeptHeap(1, w);
        for (int word = 0; word < w / 2; word++) {
            answers.dueMade("in the first half of " + w, heap, 0, 1, word);
        }
        due("not collected up to its last word", heap.count(3), 0);
        due("nothing in the other half", heap.at(w / 2), NONE);
        answers.dueMade("one more", heap, 1, 1, w / 2 + 1);
        due("collected", heap.count(3), 1);
        answers.dueWords("the other half is in use", heap, w / 2, w / 2 - 1, w / 2);
        due("the first half is free", heap.at(0), NONE);
        due("up to its last word", heap.at(w / 2 - 1), NONE);
    }

    private static void behindTheLatest() {
        answers.sentence("an object comes behind those that were made or copied there latest");
        KeptHeap heap = Answers.heapOf(1, 32, 2, 3);
        heap.drop(0);
        answers.dueMade("not where one lies that is not reached", heap, 2, 2, 5);
        heap.drop(2);
        answers.dueMade("behind the latest, though that is not reached", heap, 3, 1, 7);
    }

    private static void behindThoseCopied() {
        answers.sentence("an object comes behind those that were made or copied there latest");
        KeptHeap heap = Answers.heapOf(1, 32, 2, 3, 2);
        heap.drop(1);
        heap.collect();
        answers.dueMade("behind those copied", heap, 3, 1, 20);
        heap.drop(3);
        answers.dueMade("behind one made there", heap, 4, 1, 21);
        heap.collect();
        answers.dueMade("in the first half again behind those copied", heap, 5, 1, 5);
    }

    private static void theOtherHalf() {
        answers.sentence("TO COLLECT: the other half is in use then");
        KeptHeap heap = new KeptHeap(1, 20);
        for (int round = 0; round < 5; round++) {
            due("nothing goes", heap.collect(), 0);
        }
        answers.dueMade("after five times, with nothing in it", heap, 0, 3, 10);
        heap.collect();
        due("the first half", heap.object(0, 1), 0);
        heap.collect();
        due("the second half", heap.object(0, 1), 10);
        answers.dueWords("only there", heap, 0, NONE, NONE, NONE, NONE, NONE, NONE, NONE, NONE, NONE, NONE, 0, 0, 0, NONE);
        due("twice to another address", heap.count(5), 2);
        heap.drop(0);
        due("it goes", heap.collect(), 1);
        answers.dueMade("the first half, though nothing was copied", heap, 1, 1, 0);
    }

    private static void rootsByNumbers() {
        answers.sentence("objects that the roots refer to, by the roots' numbers, come there one behind the other");
        KeptHeap heap = new KeptHeap(1, 64);
        for (int root = 15; root >= 0; root--) {
            heap.make(root, root % 2);
        }
        due("none goes", heap.collect(), 0);
        int address = 32;
        for (int root = 0; root < 16; root++) {
            due("root " + root, heap.object(root, 1), address);
            address += 1 + root % 2;
        }
        due("each came to another address", heap.count(5), 16);
    }

    /** Root 3's object 1 refers to 4 and 3; root 7's object 0 to 3 and 2; 4 to 5, 2 to 6. */
    private static void fieldsInTurn() {
        answers.sentence("then, for each object there in turn, those that its fields refer to, by their numbers");
        KeptHeap heap = new KeptHeap(1, 64);
        int[][] rootAndFields = {{7, 3}, {3, 2}, {8, 1}, {9, 0}, {10, 1}, {11, 4}, {12, 1}};
        for (int[] made : rootAndFields) {
            heap.make(made[0], made[1]);
        }
        int[][] links = {{3, 0, 10}, {3, 1, 9}, {7, 1, 9}, {7, 2, 8}, {10, 0, 11}, {8, 0, 12}, {11, 3, 7}};
        for (int[] link : links) {
            heap.link(link[0], link[1], link[2]);
        }
        for (int root = 8; root <= 12; root++) {
            heap.drop(root);
        }
        int[] order = {1, 1, 1, 0, 0, 0, 0, 4, 4, 3, 2, 2, 5, 5, 5, 5, 5, 6, 6, NONE};
        due("none goes", heap.collect(), 0);
        answers.dueWords("roots', their fields', these ones' fields'", heap, 32, order);
        due("none goes", heap.collect(), 0);
        answers.dueWords("and back", heap, 0, order);
    }

    private static void eachOnce() {
        answers.sentence("those that its fields refer to, by their numbers, each once");
        KeptHeap heap = Answers.heapOf(1, 32, 3, 3, 2);
        heap.link(0, 0, 0);
        heap.link(0, 1, 1);
        heap.link(1, 0, 0);
        heap.link(1, 1, 2);
        heap.link(2, 0, 0);
        heap.copy(5, 0);
        heap.copy(6, 2);
        due("none goes", heap.collect(), 0);
        answers.dueWords("each once", heap, 16, 0, 0, 0, 1, 1, 1, 2, 2, NONE);
        answers.dueCounts("each once", heap, 3, 8, 3, 1, 0, 3, 0, 3, 32);
        due("two roots have one object", heap.same(5, 0), 1);
        due("a field has the same one", heap.load(7, 2, 0), 0);
        due("at its address", heap.object(7, 1), 16);
    }

    private static void allOthersGo() {
        answers.sentence("all others go");
        KeptHeap heap = Answers.heapOf(1, 64, 2, 2, 2, 2);
        heap.link(1, 0, 2);
        heap.link(2, 0, 1);
        heap.link(3, 0, 0);
        for (int root = 1; root <= 3; root++) {
            heap.drop(root);
        }
        due("a ring, and one that refers to one that is reached", heap.collect(), 3);
        answers.dueCounts("one is left", heap, 1, 2, 4, 1, 0, 1, 0, 1, 64);
        heap.drop(0);
        due("the last goes", heap.collect(), 1);
        answers.dueCounts("none is left", heap, 0, 0, 4, 2, 0, 1, 0, 0, 64);
    }

    private static void fullHalf() {
        answers.sentence("TO COLLECT: the other half is in use then");
        KeptHeap heap = Answers.heapOf(1, 20, 7, 3);
        due("a full half of which all are reached", heap.collect(), 0);
        answers.dueWords("up to the last word", heap, 9, NONE, 0, 0, 0, 0, 0, 0, 0, 1, 1, 1);
        due("and back", heap.collect(), 0);
        answers.dueWords("up to the half's last word", heap, 6, 0, 1, 1, 1, NONE);
    }

    private static void makingWithRoom() {
        answers.sentence("if there is no room for it (of keeper 1 behind the latest one of the half");
        KeptHeap heap = Answers.heapOf(1, 20, 7, 1);
        heap.drop(0);
        answers.dueMade("just room for it", heap, 2, 2, 8);
        due("so it is not collected", heap.count(3), 0);
        heap.collect();
        heap.make(3, 4);
        due("not collected in the second half", heap.count(3), 1);
        answers.dueMade("just room for it in the second half", heap, 4, 2, 18);
        due("not collected there either", heap.count(3), 1);
    }

    private static void makingCollects() {
        answers.sentence("if there is no room for it (of keeper 1 behind the latest one of the half");
        KeptHeap heap = Answers.heapOf(1, 20, 7, 1);
        heap.drop(0);
        answers.dueMade("one word too many behind the latest", heap, 2, 3, 11);
        due("collected once", heap.count(3), 1);
        due("one went", heap.count(0), 2);
        heap.make(3, 5);
        due("up to the last word", heap.object(3, 1), 14);
        heap.drop(1);
        answers.dueMade("words free before the latest are no room", heap, 1, 1, 9);
        due("collected", heap.count(3), 2);
    }

    private static void makingIsFull() {
        answers.sentence("if there is no room then either, it is FULL: what was collected stays so, and nothing else is done");
        KeptHeap heap = Answers.heapOf(1, 16, 6, 2);
        heap.drop(1);
        due("one word too many", heap.make(2, 2), FULL);
        due("the other half is in use", heap.object(0, 1), 8);
        answers.dueCounts("who was not reached is gone", heap, 1, 6, 2, 1, 0, 1, 0, 1, 16);
        due("the root refers to none still", heap.object(2, 0), REFUSED);
        answers.dueMade("just enough", heap, 2, 2, 14);
        Map<String, Long> before = Look.at(heap);
        due("no word is left", heap.make(3, 0), FULL);
        due("again in use", heap.object(2, 1), 6);
        due("and once more", heap.make(3, 0), FULL);
        due("collected each time", heap.count(3), 3);
        due("all came to another address each time", heap.count(5), 5);
        answers.dueUnchanged("twice FULL", heap, before, "count(3)", "count(5)");
    }

    private static void makingForARootThatRefers() {
        answers.sentence("Else the root refers to it.");
        KeptHeap heap = Answers.heapOf(1, 16, 7);
        due("what the root refers to is reached till then", heap.make(0, 6), FULL);
        due("it refers to it still", heap.object(0, 0), 0);
        due("in the other half", heap.object(0, 1), 8);
        due("with room", heap.make(0, 0), 1);
        due("it refers to the new one", heap.object(0, 1), 15);
        due("the one before is not reached", heap.collect(), 1);
    }
}
