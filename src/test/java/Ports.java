/** Ports as the tests begin with them, and texts fed to them. */
final class Ports {
    private Ports() {
    }

    /** A port with so many trucks of each sort and stands of such sizes. */
    static WingPort with(int trucks, int... sizes) {
        WingPort x = new WingPort();
        for (int size : sizes) {
            x.stand(size);
        }
        for (int sort = 0; sort < 5; sort++) {
            x.set(sort, trucks);
        }
        return x;
    }

    /** Puts a text behind the tape: what the last feedTape answered. */
    static int tape(WingPort x, String text) {
        int answer = 0;
        for (int i = 0; i < text.length(); i += 8) {
            int n = Math.min(8, text.length() - i);
            long w = 0;
            for (int k = 0; k < n; k++) {
                w = w << 8 | text.charAt(i + k);
            }
            answer = x.feedTape(w, n);
        }
        return answer;
    }

    static int text(WingPort x, String text) {
        tape(x, text);
        return x.text();
    }

    /** Reads a text and makes it the rule. */
    static void rule(WingPort x, String text) {
        int number = text(x, text);
        if (number < 0) {
            throw new IllegalArgumentException(text + ": " + number);
        }
        x.force(number);
    }

    /** Runs till TICK is so. */
    static void runTill(WingPort x, int tick) {
        while (x.count(0) < tick) {
            int before = x.count(0);
            if (x.run(Math.min(200, tick - before)) <= before) {
                throw new IllegalStateException("TICK stays at " + before);
            }
        }
    }

    /** All that a port tells of itself, as one row of numbers: what a refusal must not change. */
    static String picture(WingPort x) {
        StringBuilder all = new StringBuilder();
        for (int what = 0; what < 14; what++) {
            all.append(x.count(what)).append(' ');
        }
        int visits = x.count(1);
        int feeds = x.count(3);
        int stands = x.count(2);
        for (int v = 0; v < visits; v++) {
            for (int what = 0; what < 11; what++) {
                all.append(x.visitTold(v, what)).append(' ');
            }
            for (int c = 0; c < 9; c++) {
                all.append(x.cause(v, c)).append(' ');
            }
            all.append(x.planned(v)).append(' ').append(x.expects(v, 0)).append(' ');
        }
        for (int f = 0; f < feeds; f++) {
            all.append(x.feedTold(f, 3)).append(' ').append(x.feedTold(f, 4)).append(' ');
        }
        for (int s = 0; s < stands; s++) {
            all.append(x.standTold(s, 1)).append(' ');
        }
        for (int r = 0; r < 2; r++) {
            all.append(x.runwayTold(r, 0)).append(' ').append(x.runwayTold(r, 1)).append(' ');
        }
        for (int sort = 0; sort < 5; sort++) {
            all.append(x.trucks(sort, 0)).append(' ').append(x.trucks(sort, 1)).append(' ');
        }
        return all.toString();
    }
}
