/** Counts what is as due, and prints a line for each test: "ok NAME", or "not ok NAME" with what is wrong. */
final class Check {
    private static final int MOST_TOLD = 5;
    private static boolean anyFailed = false;

    private final String name;
    private int wrong = 0;

    Check(String name) {
        this.name = name;
    }

    void due(String what, long got, long want) {
        if (got != want) {
            fail(what + " answered " + got + ", due is " + want);
        }
    }

    void yes(String what, boolean got) {
        if (!got) {
            fail(what + ": due is true");
        }
    }

    void no(String what, boolean got) {
        if (got) {
            fail(what + ": due is false");
        }
    }

    void fail(String what) {
        wrong++;
        if (wrong <= MOST_TOLD) {
            System.out.println("  " + name + ": " + what);
        }
    }

    boolean failed() {
        return wrong > 0;
    }

    void close() {
        System.out.println(wrong == 0 ? "ok " + name : "not ok " + name + ": " + wrong + " wrong");
        anyFailed |= wrong > 0;
    }

    /** To be called last by the main method of each test. */
    static void end() {
        System.out.println("end");
        if (anyFailed) {
            System.exit(1);
        }
    }
}
