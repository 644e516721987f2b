/** Compares answers with those that are due, and ends a test with its exit code. */
final class Check {
    private static final int MOST_SHOWN = 20;

    private final String test;
    private int passed;
    private int failed;

    Check(String test) {
        this.test = test;
    }

    void due(String call, long want, long got) {
        if (want == got) {
            passed++;
            return;
        }
        failed++;
        if (failed <= MOST_SHOWN) {
            System.out.println(test + ": " + call + " answered " + got + ", due is " + want);
        }
    }

    void holds(String what, boolean holds) {
        due(what, 1, holds ? 1 : 0);
    }

    void end() {
        System.out.println(test + ": " + passed + " answers are as due, " + failed + " are not");
        if (failed != 0 || passed == 0) {
            System.exit(1);
        }
    }
}
