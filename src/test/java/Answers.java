import java.util.List;
import java.util.Map;

/** Counts and prints the answers that are not the ones that are due. */
final class Answers {
    static final List<Integer> KEEPERS = List.of(0, 1, 2);
    static final List<Integer> WRONG_ROOTS = List.of(-1, 16, Integer.MIN_VALUE, Integer.MAX_VALUE);
    private static final int MOST_PRINTED = 40;

    private final String test;
    private String sentence = "";
    private int checked;
    private int wrong;

    Answers(String test) {
        this.test = test;
    }

    /** The words of the document that the next answers are held against. */
    void sentence(String words) {
        sentence = " \"" + words + "\":";
    }

    void due(String call, long got, long want) {
        checked++;
        if (got == want) {
            return;
        }
        wrong++;
        if (wrong <= MOST_PRINTED) {
            System.out.println(test + ":" + sentence + " " + call + " answered " + got + ", due is " + want);
        }
    }

    void dueTrue(String what, boolean holds) {
        due(what, holds ? 1 : 0, 1);
    }

    /** The names of the objects that lie at a word and at those behind it. */
    void dueWords(String when, KeptHeap heap, int from, int... names) {
        for (int i = 0; i < names.length; i++) {
            due(when + ": at(" + (from + i) + ")", heap.at(from + i), names[i]);
        }
    }

    /** The answers of count(0), count(1) and so on. */
    void dueCounts(String when, KeptHeap heap, int... counts) {
        for (int what = 0; what < counts.length; what++) {
            due(when + ": count(" + what + ")", heap.count(what), counts[what]);
        }
    }

    /** Nothing that can be asked of the heap has changed since a look at it, but what is named. */
    void dueUnchanged(String when, KeptHeap heap, Map<String, Long> before, String... but) {
        for (Map.Entry<String, Long> now : Look.at(heap).entrySet()) {
            if (!List.of(but).contains(now.getKey())) {
                due(when + ", then " + now.getKey(), now.getValue(), before.get(now.getKey()));
            }
        }
    }

    /** A heap with an object of so many words for each of the roots 0, 1, .. */
    static KeptHeap heapOf(int keeper, int w, int... sizes) {
        KeptHeap heap = new KeptHeap(keeper, w);
        for (int root = 0; root < sizes.length; root++) {
            heap.make(root, sizes[root] - 1);
        }
        return heap;
    }

    /** Makes an object of so many words that is to come to an address. */
    void dueMade(String how, KeptHeap heap, int root, int size, int address) {
        heap.make(root, size - 1);
        due(how + ": object(" + root + ", 1)", heap.object(root, 1), address);
    }

    int wrong() {
        return wrong;
    }

    void end() {
        System.out.println(test + ": " + checked + " answers, " + wrong + " not as due");
        if (wrong != 0) {
            System.exit(1);
        }
    }
}
