import java.util.LinkedHashMap;
import java.util.Map;
import java.util.function.ToLongFunction;

/** The sentences of the section Terms that speak of every keeper. */
public final class TermsTest {
    private static final Answers answers = new Answers("TermsTest");
    private static final int NONE = -1;
    private static final int BAD = -2;
    private static final int REFUSED = -3;
    private static final int FULL = -4;
    private static final int LEAST = Integer.MIN_VALUE;
    private static final int MOST = Integer.MAX_VALUE;

    public static void main(String[] args) {
        for (int keeper : Answers.KEEPERS) {
            words(keeper);
            names(keeper);
            namesAfterFull(keeper);
            wordsOfAnObject(keeper);
            wordsOfObjectsWhenFull(keeper);
            fieldsAtFirst(keeper);
            fieldHasOneOfBoth(keeper);
            roots(keeper);
            reachedByRoots(keeper);
            reachedByFields(keeper);
            reachedByALongChain(keeper);
            reachedIsWhatItWas(keeper);
            badThenRefused(keeper);
        }
        answers.end();
    }

    private static void due(String call, long got, long want) {
        answers.due(call, got, want);
    }

    private static void words(int keeper) {
        answers.sentence("THE HEAP has W words, numbered from 0 on.");
        for (int w : new int[] {16, 20, 100, 396, 400}) {
            KeptHeap heap = new KeptHeap(keeper, w);
            due("W", heap.count(8), w);
            due("before the first", heap.at(-1), BAD);
            due("the first", heap.at(0), NONE);
            due("the last", heap.at(w - 1), NONE);
            due("behind the last", heap.at(w), BAD);
        }
    }

    private static void names(int keeper) {
        answers.sentence("AN OBJECT has a NAME (0, 1, .. as they are made)");
        KeptHeap heap = new KeptHeap(keeper, 32);
        due("the first", heap.make(3, 1), 0);
        due("the next, for the same root", heap.make(3, 1), 1);
        due("a wrong one", heap.make(3, 7), BAD);
        due("a wrong root's", heap.make(16, 1), BAD);
        due("the next after wrong ones", heap.make(0, 1), 2);
        heap.drop(0);
        heap.drop(3);
        due("all go", heap.collect(), 3);
        due("no name is given again", heap.make(0, 1), 3);
        due("it is its own", heap.object(0, 0), 3);
        heap.collect();
        due("and stays so", heap.object(0, 0), 3);
    }

    private static void namesAfterFull(int keeper) {
        answers.sentence("AN OBJECT has a NAME (0, 1, .. as they are made)");
        KeptHeap heap = new KeptHeap(keeper, 16);
        int most = keeper == 1 ? 2 : 4;
        for (int i = 0; i < most; i++) {
            due("one of those that have room", heap.make(i, 3), i);
        }
        due("one too many", heap.make(15, 3), FULL);
        due("and again", heap.make(15, 3), FULL);
        heap.drop(0);
        due("the next after FULL", heap.make(15, 3), most);
    }

    private static void wordsOfAnObject(int keeper) {
        answers.sentence("up to 6 FIELDS and lies in one word more than these, side by side; its ADDRESS is the first of them");
        for (int n = 0; n <= 6; n++) {
            KeptHeap heap = new KeptHeap(keeper, 64);
            heap.make(0, 0);
            heap.make(1, n);
            heap.make(2, 0);
            liesBetweenTwo("made", heap, 0, n);
            heap.collect();
            liesBetweenTwo("collected", heap, keeper == 1 ? 32 : keeper == 2 ? 16 : 0, n);
        }
    }

    private static void liesBetweenTwo(String when, KeptHeap heap, int start, int n) {
        due(when + ": ADDRESS with " + n + " fields", heap.object(1, 1), start + 1);
        due(when + ": fields", heap.object(1, 2), n);
        answers.dueWords(when, heap, start, 0);
        for (int i = 0; i <= n; i++) {
            answers.dueWords(when + " with " + n + " fields", heap, start + 1 + i, 1);
        }
        answers.dueWords(when + " with " + n + " fields", heap, start + n + 2, 2, NONE);
        due(when + ": words of all", heap.count(1), n + 3);
    }

    /** Objects of one word each: the most of them that a heap can have. */
    private static void wordsOfObjectsWhenFull(int keeper) {
        answers.sentence("up to 6 FIELDS and lies in one word more than these, side by side; its ADDRESS is the first of them");
        KeptHeap heap = new KeptHeap(keeper, 16);
        int most = keeper == 1 ? 8 : 16;
        for (int i = 0; i < most; i++) {
            due("one word each", heap.make(i, 0), i);
        }
        due("words", heap.count(1), most);
        due("objects", heap.count(0), most);
        due("reached", heap.count(7), most);
        due("none went", heap.collect(), keeper == 2 ? FULL : 0);
        due("one too many", heap.make(0, 0), FULL);
        due("all are there", heap.count(7), most);
    }

    /** Three times over, so that each keeper comes to the same words again. */
    private static void fieldsAtFirst(int keeper) {
        answers.sentence("A field has a number (0 at first)");
        KeptHeap heap = new KeptHeap(keeper, 32);
        for (int round = 0; round < 3; round++) {
            heap.make(0, 6);
            for (int field = 0; field < 6; field++) {
                due("a new field's number", heap.number(0, field), 0);
                due("a new field refers", heap.refers(0, field), 0);
                due("a new field's object", heap.load(1, 0, field), REFUSED);
                heap.set(0, field, 1 + field);
            }
            heap.collect();
            heap.link(0, 5, 0);
            heap.drop(0);
            heap.collect();
        }
    }

    private static void fieldHasOneOfBoth(int keeper) {
        answers.sentence("A field has a number (0 at first) or refers to an object.");
        KeptHeap heap = new KeptHeap(keeper, 32);
        heap.make(0, 1);
        heap.set(0, 0, 4);
        heap.link(0, 0, 0);
        due("number of one that refers", heap.number(0, 0), 0);
        due("refers", heap.refers(0, 0), 1);
        heap.set(0, 0, 5);
        due("number", heap.number(0, 0), 5);
        due("refers no more", heap.refers(0, 0), 0);
        due("no object to load", heap.load(0, 0, 0), REFUSED);
    }

    private static void roots(int keeper) {
        answers.sentence("ROOTS 0 .. 15 refer to an object each, or to none (at first).");
        KeptHeap heap = new KeptHeap(keeper, 64);
        for (int root = 0; root < 16; root++) {
            due("root " + root + " at first", heap.object(root, 0), REFUSED);
        }
        for (int root = 0; root < 16; root++) {
            due("made for " + root, heap.make(root, 0), root);
        }
        due("root -1", heap.make(-1, 0), BAD);
        due("root 16", heap.make(16, 0), BAD);
        heap.collect();
        for (int root = 0; root < 16; root++) {
            due("root " + root + " has its own", heap.object(root, 0), root);
        }
    }

    private static void reachedByRoots(int keeper) {
        answers.sentence("REACHED are objects that roots refer to");
        KeptHeap heap = new KeptHeap(keeper, 64);
        due("at first", heap.count(7), 0);
        heap.make(0, 0);
        due("by the first root", heap.count(7), 1);
        heap.make(15, 0);
        due("by the last root", heap.count(7), 2);
        heap.copy(7, 15);
        due("by two roots, once", heap.count(7), 2);
        heap.drop(15);
        due("by the other of two roots", heap.count(7), 2);
        due("which is enough", heap.collect(), 0);
        heap.drop(7);
        due("by no root", heap.count(7), 1);
        due("so it goes", heap.collect(), 1);
        heap.drop(0);
        due("none", heap.count(7), 0);
        due("so all go", heap.collect(), 1);
        due("nothing is left", heap.count(0), 0);
    }

    private static void reachedByFields(int keeper) {
        answers.sentence("and those that fields of reached ones refer to");
        KeptHeap heap = new KeptHeap(keeper, 128);
        heap.make(0, 6);
        for (int root = 1; root <= 4; root++) {
            heap.make(root, 2);
        }
        heap.link(0, 0, 1);
        heap.link(0, 5, 2);
        heap.link(2, 1, 3);
        heap.link(3, 0, 0);
        heap.link(4, 0, 4);
        heap.link(4, 1, 1);
        for (int root = 1; root <= 4; root++) {
            heap.drop(root);
        }
        due("by the first field, the last, by a field's field", heap.count(7), 4);
        due("one that only itself refers to goes", heap.collect(), 1);
        due("the others do not", heap.count(0), 4);
        heap.set(0, 5, 0);
        due("not by a field that refers no more", heap.count(7), 2);
        due("two go", heap.collect(), 2);
        due("by the first field still", heap.load(9, 0, 0), 1);
    }

    private static void reachedByALongChain(int keeper) {
        answers.sentence("and those that fields of reached ones refer to");
        KeptHeap heap = new KeptHeap(keeper, 400);
        int length = keeper == 1 ? 100 : 150;
        for (int i = 0; i < length; i++) {
            heap.make(1, 1);
            if (i > 0) {
                heap.link(1, 0, 0);
            }
            heap.copy(0, 1);
        }
        heap.drop(1);
        due("all of a long chain", heap.count(7), length);
        due("none of it goes", heap.collect(), 0);
        due("all are there", heap.count(0), length);
        heap.load(0, 0, 0);
        due("all but the first", heap.collect(), 1);
        heap.drop(0);
        due("the whole chain goes", heap.collect(), length - 1);
    }

    private static void reachedIsWhatItWas(int keeper) {
        answers.sentence("what is reached from the roots is always what it was, wherever it lies");
        KeptHeap heap = new KeptHeap(keeper, 64);
        for (int root = 0; root < 3; root++) {
            heap.make(root, 3);
            heap.set(root, 0, root + 1);
        }
        heap.link(0, 1, 2);
        heap.link(2, 1, 1);
        heap.link(1, 2, 0);
        heap.link(2, 2, 2);
        long[] sums = {heap.sum(0), heap.sum(1), heap.sum(2)};
        for (int round = 0; round < 4; round++) {
            heap.make(9, round);
            heap.collect();
            heap.drop(9);
            for (int root = 0; root < 3; root++) {
                due("sum of " + root + " in round " + round, heap.sum(root), sums[root]);
                due("name of " + root, heap.object(root, 0), root);
                due("number of " + root, heap.number(root, 0), root + 1);
            }
            due("who refers to whom", heap.load(3, 0, 1), 2);
            due("one object", heap.same(3, 2), 1);
            due("whom that one refers to", heap.load(4, 3, 1), 1);
        }
    }

    /** Root 0's object has a number and a reference, root 1's no field, 9 and 10 refer to none. */
    private static KeptHeap heapForWrongCalls(int keeper) {
        KeptHeap heap = new KeptHeap(keeper, 24);
        heap.make(0, 2);
        heap.make(1, 0);
        heap.set(0, 0, 5);
        heap.link(0, 1, 1);
        heap.collect();
        heap.make(2, 1);
        return heap;
    }

    private static void badThenRefused(int keeper) {
        Map<String, ToLongFunction<KeptHeap>> bad = new LinkedHashMap<>();
        Map<String, ToLongFunction<KeptHeap>> refused = new LinkedHashMap<>();
        for (int wrong : Answers.WRONG_ROOTS) {
            noSuchRoot(bad, wrong);
        }
        for (int wrong : new int[] {-1, 6, LEAST, MOST}) {
            noSuchField(bad, "0", 0, wrong);
            noSuchField(bad, "none", 9, wrong);
        }
        noSuchField(bad, "0", 0, 2);
        noSuchField(bad, "0", 0, 5);
        noSuchField(bad, "1", 1, 0);
        notAsSaid(bad, keeper);
        refersToNone(refused);
        answers.sentence("In all calls BAD: a number is not as said, there is no such root; a field is not 0 .. 5, or the root's object has it not");
        eachAnswers(keeper, bad, BAD);
        answers.sentence("then REFUSED: the root refers to none");
        eachAnswers(keeper, refused, REFUSED);
    }

    private static void noSuchRoot(Map<String, ToLongFunction<KeptHeap>> bad, int wrong) {
        bad.put("make(" + wrong + ", 0)", heap -> heap.make(wrong, 0));
        bad.put("set(" + wrong + ", 0, 1)", heap -> heap.set(wrong, 0, 1));
        bad.put("link(" + wrong + ", 0, 0)", heap -> heap.link(wrong, 0, 0));
        bad.put("link(" + wrong + ", 0, none)", heap -> heap.link(wrong, 0, 9));
        bad.put("link(0, 0, " + wrong + ")", heap -> heap.link(0, 0, wrong));
        bad.put("link(none, 0, " + wrong + ")", heap -> heap.link(9, 0, wrong));
        bad.put("refers(" + wrong + ", 0)", heap -> heap.refers(wrong, 0));
        bad.put("load(" + wrong + ", 0, 1)", heap -> heap.load(wrong, 0, 1));
        bad.put("load(" + wrong + ", none, 0)", heap -> heap.load(wrong, 9, 0));
        bad.put("load(" + wrong + ", 0, 0), a number", heap -> heap.load(wrong, 0, 0));
        bad.put("load(0, " + wrong + ", 0)", heap -> heap.load(0, wrong, 0));
        bad.put("copy(" + wrong + ", 0)", heap -> heap.copy(wrong, 0));
        bad.put("copy(" + wrong + ", none)", heap -> heap.copy(wrong, 9));
        bad.put("copy(0, " + wrong + ")", heap -> heap.copy(0, wrong));
        bad.put("drop(" + wrong + ")", heap -> heap.drop(wrong));
        bad.put("object(" + wrong + ", 0)", heap -> heap.object(wrong, 0));
        bad.put("same(" + wrong + ", 0)", heap -> heap.same(wrong, 0));
        bad.put("same(0, " + wrong + ")", heap -> heap.same(0, wrong));
        bad.put("same(none, " + wrong + ")", heap -> heap.same(9, wrong));
        bad.put("same(" + wrong + ", " + wrong + ")", heap -> heap.same(wrong, wrong));
        bad.put("sum(" + wrong + ")", heap -> heap.sum(wrong));
    }

    private static void noSuchField(Map<String, ToLongFunction<KeptHeap>> bad, String who, int root, int wrong) {
        bad.put("set(" + who + ", " + wrong + ", 1)", heap -> heap.set(root, wrong, 1));
        bad.put("link(" + who + ", " + wrong + ", 1)", heap -> heap.link(root, wrong, 1));
        bad.put("link(" + who + ", " + wrong + ", none)", heap -> heap.link(root, wrong, 10));
        bad.put("refers(" + who + ", " + wrong + ")", heap -> heap.refers(root, wrong));
        bad.put("load(3, " + who + ", " + wrong + ")", heap -> heap.load(3, root, wrong));
        bad.put("load(1, " + who + ", " + wrong + ")", heap -> heap.load(1, root, wrong));
    }

    private static void notAsSaid(Map<String, ToLongFunction<KeptHeap>> bad, int keeper) {
        for (int wrong : new int[] {-1, 7, LEAST, MOST}) {
            bad.put("make(0, " + wrong + ")", heap -> heap.make(0, wrong));
            bad.put("make(none, " + wrong + ")", heap -> heap.make(9, wrong));
        }
        for (int wrong : new int[] {-1, 5, LEAST, MOST}) {
            bad.put("object(0, " + wrong + ")", heap -> heap.object(0, wrong));
            bad.put("object(none, " + wrong + ")", heap -> heap.object(9, wrong));
        }
        for (int wrong : new int[] {-1, 9, LEAST, MOST}) {
            bad.put("count(" + wrong + ")", heap -> heap.count(wrong));
        }
        for (int wrong : new int[] {-1, 24, LEAST, MOST}) {
            bad.put("at(" + wrong + ")", heap -> heap.at(wrong));
        }
        if (keeper != 2) {
            bad.put("minor()", KeptHeap::minor);
        }
    }

    private static void refersToNone(Map<String, ToLongFunction<KeptHeap>> refused) {
        for (int field = 0; field <= 5; field++) {
            int one = field;
            refused.put("set(none, " + one + ", 1)", heap -> heap.set(9, one, 1));
            refused.put("link(none, " + one + ", 0)", heap -> heap.link(9, one, 0));
            refused.put("link(none, " + one + ", none)", heap -> heap.link(9, one, 10));
            refused.put("link(none, " + one + ", the same)", heap -> heap.link(9, one, 9));
            refused.put("refers(none, " + one + ")", heap -> heap.refers(9, one));
            refused.put("load(0, none, " + one + ")", heap -> heap.load(0, 9, one));
            refused.put("load(the same, none, " + one + ")", heap -> heap.load(9, 9, one));
        }
        refused.put("link(0, 0, none)", heap -> heap.link(0, 0, 9));
        refused.put("link(0, 1, none)", heap -> heap.link(0, 1, 9));
        refused.put("load(0, 0, 0), a number", heap -> heap.load(0, 0, 0));
        refused.put("load(9, 0, 0), a number", heap -> heap.load(9, 0, 0));
        for (int what = 0; what <= 4; what++) {
            int one = what;
            refused.put("object(none, " + one + ")", heap -> heap.object(9, one));
        }
    }

    /** A call that is not done changes nothing. */
    private static void eachAnswers(int keeper, Map<String, ToLongFunction<KeptHeap>> calls, int want) {
        for (Map.Entry<String, ToLongFunction<KeptHeap>> call : calls.entrySet()) {
            KeptHeap heap = heapForWrongCalls(keeper);
            Map<String, Long> before = Look.at(heap);
            due(call.getKey(), call.getValue().applyAsLong(heap), want);
            answers.dueUnchanged(call.getKey(), heap, before);
        }
    }
}
