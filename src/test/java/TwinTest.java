import java.util.ArrayList;
import java.util.List;
import java.util.Random;

/** Runs of calls chosen by fixed seeds, answered by the class and by the plain port: the answers are alike. */
public final class TwinTest {
    private static final int RUNS = 1500;
    private static final int CALLS = 512;
    private static final String[] WORDS = {"in", "late", "kind", "wait", "prev", "fog", "bags", "crew"};
    private static final String[] PIECES = {"prio", "sep", "hold", "or", "and", "not", "in", "wait", "(", ")", ";", "+",
        "-", "*", "<", "=", "0", "7", "12345", "x", "prior", " ", "\n", "$", "late", "crew"};

    private final Random random;
    private final WingPort x = new WingPort();
    private final PlainPort twin = new PlainPort();
    private final List<String> told = new ArrayList<>();
    private boolean wild;

    private TwinTest(long seed) {
        random = new Random(seed);
    }

    public static void main(String[] args) {
        Check check = new Check("twin");
        for (int run = 0; run < RUNS; run++) {
            new TwinTest(run).play(check, run);
        }
        check.end();
    }

    private int below(int n) {
        return random.nextInt(n);
    }

    private int among(int... numbers) {
        return numbers[below(numbers.length)];
    }

    /** A number from least to most, seldom one a little or far outside. */
    private int number(int least, int most) {
        int dice = below(wild ? 12 : 60);
        if (dice == 0) {
            return among(least - 1, most + 1, Integer.MIN_VALUE, Integer.MAX_VALUE, -1, 0);
        }
        return dice == 1 ? among(least, most) : least + below(most - least + 1);
    }

    private int visit() {
        return number(0, Math.max(0, twin.flights.size() - 1));
    }

    private int place() {
        return number(0, Math.max(0, twin.stands.size() - 1));
    }

    private void play(Check check, int run) {
        wild = run % 3 == 0;
        boolean busy = run % 4 != 1;
        if (run % 5 != 4) {
            furnish(run);
        }
        for (int call = 0; call < CALLS && told.size() < CALLS; call++) {
            long[] answers = call(busy);
            if (answers[0] != answers[1]) {
                check.due("run " + run + ": " + String.join("; ", told), answers[0], answers[1]);
                return;
            }
        }
        check.holds("run " + run, true);
    }

    /** Most runs begin with stands, trucks and visits, or little would happen in them. */
    private void furnish(int run) {
        for (int s = 0; s < 1 + below(6); s++) {
            int size = among(1, 2, 2, 3, 3, 3);
            x.stand(size);
            twin.stand(size);
            told.add("stand(" + size + ")");
        }
        for (int sort = 0; sort < 5; sort++) {
            int many = among(0, 1, 1, 2, 2, 3, 9);
            x.set(sort, many);
            twin.set(sort, many);
            told.add("set(" + sort + ", " + many + ")");
        }
        for (int v = 0; v < 2 + below(8); v++) {
            newVisit();
        }
        for (int f = 0; f < below(8); f++) {
            newFeed();
        }
    }

    private long[] newVisit() {
        int kind = number(0, 5);
        int eta = Math.min(9999, twin.tick + below(40));
        int etd = eta + 1 + below(90);
        int crew = below(3) == 0 ? 1 + below(60) : number(1, 999);
        if (below(wild ? 10 : 100) == 0) {
            eta = number(0, 9999);
            etd = number(0, 9999);
        }
        return both("visit", x.visit(kind, eta, etd, crew), twin.visit(kind, eta, etd, crew), kind, eta, etd, crew);
    }

    private long[] newFeed() {
        int from = visit();
        int to = visit();
        int bags = number(1, 99);
        int cart = below(2) == 0 ? 1 + below(12) : number(1, 99);
        return both("feed", x.feed(from, to, bags, cart), twin.feed(from, to, bags, cart), from, to, bags, cart);
    }

    private long[] both(String name, long got, long due, long... args) {
        StringBuilder call = new StringBuilder(name).append('(');
        for (int i = 0; i < args.length; i++) {
            call.append(i == 0 ? "" : ", ").append(args[i]);
        }
        told.add(call.append(')').toString());
        return new long[] {got, due};
    }

    private long[] call(boolean busy) {
        int dice = below(100);
        if (dice < 22) {
            int n = wild ? number(1, 200) : below(8) == 0 ? 1 + below(60) : 1 + below(6);
            return both("run", x.run(n), twin.run(n), n);
        }
        if (dice < 27) {
            return newVisit();
        }
        if (dice < 62) {
            return ask();
        }
        if (dice < 75) {
            return tell(busy);
        }
        if (dice < 84) {
            return ahead();
        }
        return dice < 92 ? rules() : host();
    }

    private long[] tell(boolean busy) {
        int a = visit();
        switch (below(busy ? 6 : 4)) {
            case 0: {
                int s = below(4) == 0 ? -1 : place();
                return both("wish", x.wish(a, s), twin.wish(a, s), a, s);
            }
            case 1: {
                int ticks = below(2) == 0 ? below(40) : number(0, 999);
                return both("late", x.late(a, ticks), twin.late(a, ticks), a, ticks);
            }
            case 2:
                return newFeed();
            case 3: {
                int size = number(1, 3);
                return both("stand", x.stand(size), twin.stand(size), size);
            }
            default: {
                int what = number(0, 8);
                int n = what == 5 || what == 6 ? number(0, 1) : what == 8 ? number(1, 2) : number(0, below(2) == 0 ? 2 : 9);
                return both("set", x.set(what, n), twin.set(what, n), what, n);
            }
        }
    }

    private long[] ask() {
        int a = visit();
        switch (below(10)) {
            case 0:
            case 1:
            case 2: {
                int what = number(0, 10);
                return both("visitTold", x.visitTold(a, what), twin.visitTold(a, what), a, what);
            }
            case 3:
            case 4: {
                int c = number(0, 8);
                return both("cause", x.cause(a, c), twin.cause(a, c), a, c);
            }
            case 5: {
                int f = number(0, Math.max(0, twin.feeds.size() - 1));
                int what = number(0, 4);
                return both("feedTold", x.feedTold(f, what), twin.feedTold(f, what), f, what);
            }
            case 6: {
                int s = place();
                int what = number(0, 1);
                return both("standTold", x.standTold(s, what), twin.standTold(s, what), s, what);
            }
            case 7: {
                int r = number(0, 1);
                int what = number(0, 1);
                return both("runwayTold", x.runwayTold(r, what), twin.runwayTold(r, what), r, what);
            }
            case 8: {
                int what = number(0, 13);
                return both("count", x.count(what), twin.count(what), what);
            }
            default:
                return askOfKinds();
        }
    }

    private long[] askOfKinds() {
        int kind = number(0, 5);
        switch (below(3)) {
            case 0: {
                int act = number(0, 7);
                return both("ticks", x.ticks(kind, act), twin.ticks(kind, act), kind, act);
            }
            case 1: {
                int what = number(0, 1);
                return both("kindTold", x.kindTold(kind, what), twin.kindTold(kind, what), kind, what);
            }
            default: {
                int sort = number(0, 4);
                int what = number(0, 1);
                return both("trucks", x.trucks(sort, what), twin.trucks(sort, what), sort, what);
            }
        }
    }

    private long[] ahead() {
        int a = visit();
        switch (below(7)) {
            case 0: {
                int n = below(2) == 0 ? 1 + below(60) : number(1, 200);
                int what = number(0, 4);
                return both("beside", x.beside(n, what), twin.beside(n, what), n, what);
            }
            case 1: {
                int set = 1 << below(12) | (below(2) == 0 ? 1 << below(12) : 0);
                int n = number(1, 40);
                set = below(wild ? 6 : 30) == 0 ? among(0, -1, 7, 1 << 12, 1 << 31, 4095) : set;
                return both("plan", x.plan(set, n), twin.plan(set, n), set, n);
            }
            case 2:
                return both("planned", x.planned(a), twin.planned(a), a);
            case 3:
                return both("settle", x.settle(), twin.settle());
            case 4: {
                int eta = below(2) == 0 ? below(200) : number(0, 9999);
                return both("estimate", x.estimate(a, eta), twin.estimate(a, eta), a, eta);
            }
            case 5: {
                int known = number(0, twin.tick);
                return both("expects", x.expects(a, known), twin.expects(a, known), a, known);
            }
            default: {
                int known = number(0, twin.tick);
                return both("misses", x.misses(a, known), twin.misses(a, known), a, known);
            }
        }
    }

    private long[] rules() {
        switch (below(6)) {
            case 0: {
                int t = number(0, Math.max(0, twin.texts.size() - 1));
                return both("force", x.force(t), twin.force(t), t);
            }
            case 1:
            case 2: {
                int a = visit();
                int part = number(0, 2);
                return both("tells", x.tells(a, part), twin.tells(a, part), a, part);
            }
            case 3: {
                long w = random.nextLong();
                int n = number(1, 8);
                return both("feedTape", x.feedTape(w, n), twin.feedTape(w, n), w, n);
            }
            case 4:
                return both("text", x.text(), twin.text());
            default:
                return wholeText();
        }
    }

    /** A text fed in pieces: mostly a good one, else one that has been spoiled somewhere. */
    private long[] wholeText() {
        String text = below(4) == 0 ? pieces() : goodText();
        if (below(3) == 0) {
            int from = below(text.length());
            int to = Math.min(text.length(), from + below(3));
            text = text.substring(0, from) + (below(2) == 0 ? PIECES[below(PIECES.length)] : "") + text.substring(to);
        }
        if (text.length() + twin.tape.size() > 160 && below(3) > 0) {
            long[] emptied = both("text", x.text(), twin.text());
            if (emptied[0] != emptied[1]) {
                return emptied;
            }
        }
        int i = 0;
        while (i < text.length()) {
            int n = Math.min(8, text.length() - i);
            long w = random.nextLong();
            for (int k = 0; k < n; k++) {
                w = w << 8 | text.charAt(i + k);
            }
            long[] fed = both("feedTape", x.feedTape(w, n), twin.feedTape(w, n), w, n);
            if (fed[0] != fed[1]) {
                return fed;
            }
            i += n;
        }
        return both("text", x.text(), twin.text());
    }

    private String pieces() {
        StringBuilder text = new StringBuilder(below(2) == 0 ? "prio " : "");
        for (int k = 0; k < 1 + below(25); k++) {
            text.append(PIECES[below(PIECES.length)]).append(below(2) == 0 ? " " : "");
        }
        return text.toString();
    }

    private String goodText() {
        return "prio " + either(3) + ";sep " + (below(2) == 0 ? "" + below(9) : either(2)) + " ;\nhold " + either(2) + ";";
    }

    private String either(int depth) {
        return both(depth) + (below(7) == 0 ? " or " + both(depth) : "");
    }

    private String both(int depth) {
        return negated(depth) + (below(7) == 0 ? " and " + negated(depth) : "");
    }

    private String negated(int depth) {
        if (depth > 0 && below(9) == 0) {
            return "not " + negated(depth - 1);
        }
        return sum(depth) + (below(6) == 0 ? among('<', '=') == '<' ? "<" + sum(depth) : "=" + sum(depth) : "");
    }

    private String sum(int depth) {
        String sign = below(2) == 0 ? " + " : "-";
        return term(depth) + (below(3) == 0 ? sign + term(depth) : "");
    }

    private String term(int depth) {
        return single(depth) + (below(4) == 0 ? "*" + single(depth) : "");
    }

    private String single(int depth) {
        int dice = below(8);
        if (depth > 0 && dice == 0) {
            return "(" + either(depth - 1) + ")";
        }
        if (depth > 0 && dice == 1) {
            return "-" + single(depth - 1);
        }
        return dice < 4 ? "" + among(0, 1, 2, 9, 40, 300, 9999) : WORDS[below(8)];
    }

    private long[] host() {
        int s = number(0, 3);
        int sort = number(0, 2);
        switch (below(6)) {
            case 0: {
                int n = number(0, 40);
                int its = below(6) == 0 ? -1 : sort;
                return both("sheet", x.sheet(s, its, n), twin.sheet(s, its, n), s, its, n);
            }
            case 1:
            case 2: {
                int i = number(0, 12);
                int v = below(2) == 0 ? twin.tick + below(80) : among(0, 1, 2, 5, 128, 200, 255, 256, 32768, 65540, -1, -200);
                return both("cell", x.cell(s, i, v), twin.cell(s, i, v), s, i, v);
            }
            case 3: {
                int other = number(0, 3);
                int i = number(0, 20);
                int j = number(0, 20);
                int n = number(0, 20);
                return both("copy", x.copy(s, i, other, j, n), twin.copy(s, i, other, j, n), s, i, other, j, n);
            }
            case 4: {
                int own = twin.rows[Math.floorMod(s, 4)] == null || below(4) == 0 ? sort : twin.sorts[Math.floorMod(s, 4)];
                int from = number(0, 12);
                int n = number(0, below(3) == 0 ? 10 : 2);
                return both("visits", x.visits(s, own, from, n), twin.visits(s, own, from, n), s, own, from, n);
            }
            default: {
                int a = visit();
                int kind = number(0, 5);
                return both("taken", x.taken(a, kind), twin.taken(a, kind), a, kind);
            }
        }
    }
}
