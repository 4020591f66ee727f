import java.util.Random;

/** Long runs of calls, the same ones each time, on KeptHeap and on NaiveHeap: all answers alike. */
public final class ModelTest {
    private static final Answers answers = new Answers("ModelTest");
    private static final int RUNS = 3000;
    private static final int CALLS = 330;
    private static final int MOST_WRONG = 40;
    private static final int[] SIZES = {-5, 0, 16, 19, 24, 28, 33, 40, 47, 64, 90, 100, 128};

    /** How many of 100 calls make, link, drop and gather; runs differ in how full they get. */
    private record Habits(int makes, int links, int drops, int gathers, int roots, int fields) { }

    private static final Habits[] HABITS = {
        new Habits(30, 25, 12, 6, 16, 6),
        new Habits(40, 30, 4, 3, 16, 3),
        new Habits(25, 25, 20, 12, 6, 2),
        new Habits(45, 20, 15, 1, 12, 6),
        new Habits(20, 45, 8, 9, 16, 4),
    };

    public static void main(String[] args) {
        for (int run = 0; run < RUNS && answers.wrong() < MOST_WRONG; run++) {
            runOnce(run);
        }
        answers.end();
    }

    private static void runOnce(int run) {
        Random random = new Random(run * 7919L + 13);
        int keeper = run % 7 == 6 ? random.nextInt() : run % 3;
        int words = run % 50 == 49 ? 300 + random.nextInt(150) : SIZES[random.nextInt(SIZES.length)];
        Habits habits = HABITS[random.nextInt(HABITS.length)];
        KeptHeap heap = new KeptHeap(keeper, words);
        NaiveHeap naive = new NaiveHeap(keeper, words);
        String run0 = "run " + run + " (" + keeper + ", " + words + ") call ";
        for (int i = 0; i < CALLS; i++) {
            callBoth(run0 + i + " ", heap, naive, random, habits);
        }
        compareAll(run0 + "end ", heap, naive, random);
    }

    private static void callBoth(String at, KeptHeap heap, NaiveHeap naive, Random random, Habits h) {
        int a = root(random, h);
        int b = root(random, h);
        int f = field(random, h);
        int dice = random.nextInt(100) - h.makes();
        if (dice < 0) {
            int n = random.nextInt(40) == 0 ? 7 : f + random.nextInt(2);
            answers.due(at + "make(" + a + ", " + n + ")", heap.make(a, n), naive.make(a, n));
            return;
        }
        dice -= h.links();
        if (dice < 0) {
            answers.due(at + "link(" + a + ", " + f + ", " + b + ")", heap.link(a, f, b), naive.link(a, f, b));
            return;
        }
        dice -= h.drops();
        if (dice < 0) {
            answers.due(at + "drop(" + a + ")", heap.drop(a), naive.drop(a));
            return;
        }
        dice -= h.gathers();
        if (dice < 0) {
            boolean whole = random.nextInt(3) == 0;
            answers.due(at + (whole ? "collect()" : "minor()"),
                whole ? heap.collect() : heap.minor(), whole ? naive.collect() : naive.minor());
            return;
        }
        callOther(at, heap, naive, random, a, b, f);
    }

    private static void callOther(String at, KeptHeap heap, NaiveHeap naive, Random random, int a, int b, int f) {
        int what = random.nextInt(12) - 1;
        switch (random.nextInt(10)) {
            case 0, 1 -> {
                int v = random.nextBoolean() ? random.nextInt() : random.nextInt(9) - 4;
                answers.due(at + "set(" + a + ", " + f + ", " + v + ")", heap.set(a, f, v), naive.set(a, f, v));
            }
            case 2 -> answers.due(at + "refers(" + a + ", " + f + ")", heap.refers(a, f), naive.refers(a, f));
            case 3 -> answers.due(at + "number(" + a + ", " + f + ")", heap.number(a, f), naive.number(a, f));
            case 4 -> answers.due(at + "load(" + a + ", " + b + ", " + f + ")", heap.load(a, b, f), naive.load(a, b, f));
            case 5 -> answers.due(at + "copy(" + a + ", " + b + ")", heap.copy(a, b), naive.copy(a, b));
            case 6 -> answers.due(at + "object(" + a + ", " + what + ")", heap.object(a, what), naive.object(a, what));
            case 7 -> answers.due(at + "count(" + what + ")", heap.count(what), naive.count(what));
            case 8 -> answers.due(at + "same(" + a + ", " + b + ")", heap.same(a, b), naive.same(a, b));
            default -> answers.due(at + "sum(" + a + ")", heap.sum(a), naive.sum(a));
        }
    }

    /** At most 182 calls, so that an object is used for no more than 512 in all. */
    private static void compareAll(String at, KeptHeap heap, NaiveHeap naive, Random random) {
        for (int what = 0; what <= 8; what++) {
            answers.due(at + "count(" + what + ")", heap.count(what), naive.count(what));
        }
        for (int root = 0; root < 16; root++) {
            answers.due(at + "sum(" + root + ")", heap.sum(root), naive.sum(root));
            answers.due(at + "object(" + root + ", 1)", heap.object(root, 1), naive.object(root, 1));
            answers.due(at + "object(" + root + ", 4)", heap.object(root, 4), naive.object(root, 4));
        }
        int last = Math.min(heap.count(8), 120);
        for (int word = -1; word <= last; word++) {
            answers.due(at + "at(" + word + ")", heap.at(word), naive.at(word));
        }
    }

    private static int root(Random random, Habits h) {
        return random.nextInt(80) == 0 ? (random.nextBoolean() ? -1 : 16) : random.nextInt(h.roots());
    }

    private static int field(Random random, Habits h) {
        return random.nextInt(60) == 0 ? (random.nextBoolean() ? -1 : 6) : random.nextInt(h.fields());
    }
}
