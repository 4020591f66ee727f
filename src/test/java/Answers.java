/** Counts and prints the answers that are not the ones that are due. */
final class Answers {
    private static final int MOST_PRINTED = 40;

    private final String test;
    private int checked;
    private int wrong;

    Answers(String test) {
        this.test = test;
    }

    void due(String call, long got, long want) {
        checked++;
        if (got == want) {
            return;
        }
        wrong++;
        if (wrong <= MOST_PRINTED) {
            System.out.println(test + ": " + call + " answered " + got + ", due is " + want);
        }
    }

    void dueTrue(String what, boolean holds) {
        due(what, holds ? 1 : 0, 1);
    }

    int wrong() {
        return wrong;
    }

    void end() {
        System.out.println(test + ": " + checked + " answers, " + wrong + " not as due");
        if (wrong != 0) {
            System.exit(1);
        }
    }
}
