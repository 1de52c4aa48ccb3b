/** Counts and prints the answers of a test that are not as due, and ends the test. */
final class Check {
    private final String title;
    private int asked;
    private int wrong;

    Check(String title) {
        this.title = title;
    }

    void due(String call, long got, long want) {
        asked++;
        if (got != want) {
            wrong++;
            System.out.println(title + ": " + call + " answered " + got + ", due is " + want);
        }
    }

    void holds(String what, boolean is) {
        asked++;
        if (!is) {
            wrong++;
            System.out.println(title + ": " + what + " does not hold");
        }
    }

    /** Ends the test; one that asked nothing has failed. */
    void end() {
        System.out.println(title + ": " + asked + " asked, " + wrong + " wrong");
        if (wrong != 0 || asked == 0) {
            System.exit(1);
        }
    }
}
