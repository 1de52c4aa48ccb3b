/** Counts and prints the answers of a test that are not as due, and ends the test. */
final class Check {
    private final String title;
    private int asked;
    private int wrong;

    Check(String title) {
        this.title = title;
    }

    void due(String call, long got, long want) {
        asked++;
        if (got != want) {
            wrong++;
            System.out.println(title + ": " + call + " answered " + got + ", due is " + want);
        }
    }

    void holds(String what, boolean is) {
        asked++;
        if (!is) {
            wrong++;
            System.out.println(title + ": " + what + " does not hold");
        }
    }

    /** A visit is in such a STATE since such a tick. */
    void tells(String what, WingPort x, int v, int state, int since) {
        due(what + ": state", x.visitTold(v, 1), state);
        due(what + ": since", x.visitTold(v, 2), since);
    }

    /** The late ticks of a visit are these by causes, and no others. */
    void causes(String what, WingPort x, int v, int... pairs) {
        int[] due = new int[9];
        int all = 0;
        for (int i = 0; i < pairs.length; i += 2) {
            due[pairs[i]] = pairs[i + 1];
            all += pairs[i + 1];
        }
        for (int c = 0; c < 9; c++) {
            due(what + ": cause(" + v + ", " + c + ")", x.cause(v, c), due[c]);
        }
        due(what + ": late ticks of " + v, x.visitTold(v, 7), all);
    }

    /** Ends the test; one that asked nothing has failed. */
    void end() {
        System.out.println(title + ": " + asked + " asked, " + wrong + " wrong");
        if (wrong != 0 || asked == 0) {
            System.exit(1);
        }
    }
}
