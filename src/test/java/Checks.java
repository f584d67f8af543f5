/** What the tests share: a call's answer is set against the one that is due. */
final class Checks {
    private int wrong = 0;
    private int made = 0;
    private String part = "";

    void part(String name) {
        part = name;
    }

    void due(String call, long got, long want) {
        made++;
        if (got != want) {
            wrong++;
            System.out.println(part + ": " + call + " answered " + got + ", due is " + want);
        }
    }

    void isTrue(String what, boolean holds) {
        made++;
        if (!holds) {
            wrong++;
            System.out.println(part + ": it does not hold that " + what);
        }
    }

    /** Ends the test with exit code 1 if an answer was wrong, or if none was asked for. */
    void end() {
        System.out.println(made + " answers, " + wrong + " wrong");
        if (wrong != 0 || made == 0) {
            System.exit(1);
        }
    }
}
