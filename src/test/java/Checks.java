/** Counts the answers of a test that are not the ones due, and prints them. */
final class Checks {
    private static final int MOST_PRINTED = 20;

    private final String test;
    private int made;
    private int wrong;

    Checks(String test) {
        this.test = test;
    }

    void due(String what, long got, long want) {
        made++;
        if (got != want) {
            wrong++;
            if (wrong <= MOST_PRINTED) {
                System.out.println(test + ": " + what + " answered " + got + ", due is " + want);
            }
        }
    }

    void holds(String what, boolean condition) {
        due(what, condition ? 1 : 0, 1);
    }

    /** Ends the test, with the exit code 1 if an answer was wrong. */
    void end() {
        System.out.println(test + ": " + made + " answers, " + wrong + " wrong");
        if (made == 0 || wrong > 0) {
            System.exit(1);
        }
    }
}
