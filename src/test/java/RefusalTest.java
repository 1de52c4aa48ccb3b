import java.util.ArrayList;
import java.util.List;
import java.util.function.Supplier;
import java.util.function.ToLongFunction;

/**
 * The refusals of every call: just outside of what is taken and far outside, of several the first one;
 * and that none of them changes anything, neither what is told at once nor what comes of it later.
 */
public final class RefusalTest {
    private static final Check CHECK = new Check("refusal");
    private static final int NONE = WingPort.NONE, BAD = WingPort.BAD, STATE = WingPort.STATE, FULL = WingPort.FULL;
    private static final int NOTHING = -11, OUTSIDE = -12, UNLIKE = -13, BELOW = -14;
    private static final int MIN = Integer.MIN_VALUE, MAX = Integer.MAX_VALUE;
    private static final int TICK = 70, DUE = 0, WENT = 8, VISITS = 9, STANDS = 4;

    private final Supplier<WingPort> maker;
    private final String now;
    private final List<String> later;

    private RefusalTest(Supplier<WingPort> maker) {
        this.maker = maker;
        now = Ports.picture(maker.get());
        later = later(maker.get());
    }

    public static void main(String[] args) {
        scene();
        RefusalTest busy = new RefusalTest(RefusalTest::busy);
        busy.port();
        busy.visits();
        busy.feeds();
        busy.told();
        busy.ahead();
        busy.rules();
        busy.host();
        new RefusalTest(RefusalTest::full).whenFull();
        new RefusalTest(RefusalTest::ended).atTheEnd();
        new RefusalTest(WingPort::new).whenNew();
        CHECK.end();
    }

    /** Nine visits, number v in STATE v at TICK 70; and something of all else that can be told. */
    static WingPort busy() {
        WingPort x = Ports.with(1, 1, 2, 1, 2);
        x.set(7, 2);
        x.set(8, 2);
        Ports.rule(x, "prio in; sep 0; hold late + 7;");
        x.visit(1, 200, 300, 99);
        x.visit(3, 65, 110, 99);
        x.visit(0, 68, 140, 99);
        x.visit(0, 65, 120, 99);
        x.visit(1, 48, 100, 30);
        x.visit(0, 1, 67, 99);
        x.visit(2, 10, 65, 99);
        x.visit(0, 0, 40, 99);
        x.visit(3, 0, 50, 99);
        x.late(0, 5);
        x.feed(4, 0, 5, 99);
        x.feed(8, 0, 6, 9);
        x.feed(7, 3, 7, 9);
        x.feed(3, 0, 8, 9);
        x.estimate(0, 250);
        Ports.runTill(x, TICK);
        x.set(0, 2);
        x.set(1, 3);
        x.wish(1, -1);
        x.wish(0, 3);
        x.estimate(3, 60);
        x.plan(3, 20);
        Ports.text(x, "prio 9; sep 8; hold 7;");
        Ports.tape(x, "prio 1;sep 2;hold 3;");
        sheet(x, 0, 0, 0, 90, 100, 5, 2);
        sheet(x, 1, 1, 7, 1, 300, 400, 70, 1);
        sheet(x, 2, 0, 3, 110, 120, 7);
        return x;
    }

    private static void sheet(WingPort x, int s, int sort, int... numbers) {
        x.sheet(s, sort, numbers.length);
        for (int i = 0; i < numbers.length; i++) {
            x.cell(s, i, numbers[i]);
        }
    }

    /** A port that takes no more of anything. */
    static WingPort full() {
        WingPort x = Ports.with(2, 1, 2, 3, 3, 2, 1);
        for (int v = 0; v < 12; v++) {
            x.visit(v % 6, 5 + v, 70 + v, 99);
        }
        for (int f = 0; f < 16; f++) {
            x.feed(f % 12, (f + 5) % 12, 1 + f, 9);
        }
        for (int e = 0; e < 40; e++) {
            x.estimate(e % 12, 20 + e);
        }
        for (int t = 1; t < 6; t++) {
            Ports.text(x, "prio 1;sep 2;hold 3;");
        }
        Ports.tape(x, "prio 1;sep 2;hold 3;" + " ".repeat(140));
        x.plan(3, 9);
        return x;
    }

    /** A port whose last tick but some has come. */
    static WingPort ended() {
        WingPort x = Ports.with(1, 1);
        x.visit(0, 9990, 9999, 99);
        x.plan(1, 5);
        Ports.runTill(x, 9970);
        return x;
    }

    private static void scene() {
        WingPort x = busy();
        for (int v = DUE; v <= WENT; v++) {
            CHECK.due("scene: STATE of " + v, x.visitTold(v, 1), v);
        }
        CHECK.due("scene: a FUEL truck is BUSY", x.trucks(1, 1), 1);
        int[] states = {1, 3, 2, 0};
        for (int f = 0; f < 4; f++) {
            CHECK.due("scene: FEED " + f, x.feedTold(f, 3), states[f]);
        }
        CHECK.due("scene: visits", x.count(1), VISITS);
        CHECK.due("scene: stands", x.count(2), STANDS);
    }

    /** What all that can't be asked for at once shows when the port goes on. */
    private static List<String> later(WingPort x) {
        List<String> all = new ArrayList<>();
        for (int part = 0; part < 3; part++) {
            all.add("tells " + x.tells(0, part));
        }
        for (int what = 0; what < 5; what++) {
            all.add("beside " + x.beside(25, what));
        }
        all.add("text " + x.text());
        for (int s = 0; s < 4; s++) {
            for (int sort = 0; sort < 3; sort++) {
                all.add("visits " + x.visits(s, sort, 0, 1) + " " + x.visits(s, sort, 1, 1));
            }
            all.add("cell " + x.cell(s, 4, 1) + " " + x.cell(s, 5, 1));
        }
        all.add("settle " + x.settle());
        all.add("misses " + x.misses(0, 0) + " " + x.misses(0, x.count(0)));
        all.add("force " + x.force(1) + " " + x.tells(0, 0));
        all.add("run " + x.run(29));
        all.add(Ports.picture(x));
        return all;
    }

    private void refuses(String what, long due, ToLongFunction<WingPort> call) {
        WingPort x = maker.get();
        CHECK.due(what, call.applyAsLong(x), due);
        CHECK.holds(what + " changes nothing", now.equals(Ports.picture(x)));
        WingPort y = maker.get();
        call.applyAsLong(y);
        CHECK.holds(what + " changes nothing that comes", later.equals(later(y)));
    }

    private void port() {
        for (int size : new int[] {MIN, -1, 0, 4, MAX}) {
            refuses("stand(" + size + ")", BAD, x -> x.stand(size));
        }
        for (int what : new int[] {MIN, -1, 9, 10, MAX}) {
            refuses("set(" + what + ", 1)", BAD, x -> x.set(what, 1));
        }
        int[] least = {0, 0, 0, 0, 0, 0, 0, 0, 1};
        int[] most = {9, 9, 9, 9, 9, 1, 1, 9, 2};
        for (int what = 0; what < 9; what++) {
            int w = what;
            for (int v : new int[] {MIN, least[w] - 1, most[w] + 1, MAX}) {
                refuses("set(" + w + ", " + v + ")", BAD, x -> x.set(w, v));
            }
        }
        refuses("fewer FUEL trucks than are BUSY", STATE, x -> x.set(1, 0));
        for (int n : new int[] {MIN, -1, 0, 201, MAX}) {
            refuses("run(" + n + ")", BAD, x -> x.run(n));
        }
    }

    private void visits() {
        for (int kind : new int[] {MIN, -1, 6, MAX}) {
            refuses("visit of kind " + kind, BAD, x -> x.visit(kind, TICK, 9999, 99));
        }
        for (int eta : new int[] {MIN, -1, 0, TICK - 1, 9999, 10000, MAX}) {
            refuses("visit with eta " + eta, BAD, x -> x.visit(0, eta, 9999, 99));
        }
        for (int etd : new int[] {MIN, -1, TICK - 1, TICK, 10000, MAX}) {
            refuses("visit with etd " + etd, BAD, x -> x.visit(0, TICK, etd, 99));
        }
        for (int crew : new int[] {MIN, -1, 0, 1000, MAX}) {
            refuses("visit with crew " + crew, BAD, x -> x.visit(0, TICK, 9999, crew));
        }
        for (int v : new int[] {MIN, -1, VISITS, 12, MAX}) {
            refuses("late(" + v + ", 0)", NONE, x -> x.late(v, 0));
            refuses("late(" + v + ", -1)", NONE, x -> x.late(v, -1));
            refuses("wish(" + v + ", 0)", NONE, x -> x.wish(v, 0));
            refuses("wish(" + v + ", -1)", NONE, x -> x.wish(v, -1));
        }
        for (int v = DUE; v <= WENT; v++) {
            int w = v;
            for (int ticks : new int[] {MIN, -1, 1000, MAX}) {
                refuses("late(" + w + ", " + ticks + ")", BAD, x -> x.late(w, ticks));
            }
            for (int s : new int[] {MIN, -2, STANDS, 5, 6, MAX}) {
                refuses("wish(" + w + ", " + s + ")", NONE, x -> x.wish(w, s));
            }
            if (v != DUE) {
                refuses("late(" + w + ", 0)", STATE, x -> x.late(w, 0));
                refuses("late(" + w + ", 999)", STATE, x -> x.late(w, 999));
            }
            if (v > 1) {
                refuses("wish(" + w + ", -1)", STATE, x -> x.wish(w, -1));
            }
        }
        refuses("a JET on a stand of 1", BAD, x -> x.wish(0, 0));
        refuses("a WIDE on a stand of 2", BAD, x -> x.wish(1, 3));
        refuses("a JET on a stand of 1, though it stands", BAD, x -> x.wish(4, 2));
        refuses("a WIDE on a stand of 2, though it went", BAD, x -> x.wish(8, 1));
        refuses("a PLANE on a stand of 2, though it lands", STATE, x -> x.wish(2, 3));
    }

    private void feeds() {
        for (int v : new int[] {MIN, -1, VISITS, 12, MAX}) {
            refuses("feed from " + v, NONE, x -> x.feed(v, 0, 1, 1));
            refuses("feed to " + v, NONE, x -> x.feed(0, v, 1, 1));
            refuses("feed from " + v + " to itself", NONE, x -> x.feed(v, v, 0, 0));
            refuses("feed to " + v + " from one that went", NONE, x -> x.feed(8, v, 1, 0));
        }
        for (int v = DUE; v <= WENT; v++) {
            int w = v;
            refuses("feed from " + w + " to itself", BAD, x -> x.feed(w, w, 1, 1));
            if (v == DUE) {
                continue;
            }
            refuses("feed from " + w, STATE, x -> x.feed(w, 0, 1, 1));
            refuses("feed to " + w, STATE, x -> x.feed(0, w, 99, 99));
            for (int n : new int[] {MIN, -1, 0, 100, MAX}) {
                refuses("feed from " + w + " of " + n, BAD, x -> x.feed(w, 0, n, 1));
                refuses("feed to " + w + " by " + n, BAD, x -> x.feed(0, w, 1, n));
            }
        }
    }

    private void told() {
        for (int out : new int[] {MIN, -1, VISITS, 12, MAX}) {
            refuses("visitTold(" + out + ", 0)", NONE, x -> x.visitTold(out, 0));
            refuses("visitTold(" + out + ", 11)", NONE, x -> x.visitTold(out, 11));
            refuses("cause(" + out + ", 0)", NONE, x -> x.cause(out, 0));
            refuses("cause(" + out + ", 9)", NONE, x -> x.cause(out, 9));
        }
        for (int out : new int[] {MIN, -1, 4, 16, MAX}) {
            refuses("feedTold(" + out + ", 0)", NONE, x -> x.feedTold(out, 0));
            refuses("feedTold(" + out + ", 5)", NONE, x -> x.feedTold(out, 5));
        }
        for (int out : new int[] {MIN, -1, STANDS, 6, MAX}) {
            refuses("standTold(" + out + ", 0)", STATE, x -> x.standTold(out, 0));
            refuses("standTold(" + out + ", 2)", STATE, x -> x.standTold(out, 2));
        }
        for (int out : new int[] {MIN, -1, 2, MAX}) {
            refuses("runwayTold(" + out + ", 0)", STATE, x -> x.runwayTold(out, 0));
            refuses("runwayTold(" + out + ", 2)", STATE, x -> x.runwayTold(out, 2));
            refuses("standTold(0, " + out + ")", BAD, x -> x.standTold(0, out));
            refuses("runwayTold(0, " + out + ")", BAD, x -> x.runwayTold(0, out));
            refuses("trucks(0, " + out + ")", BAD, x -> x.trucks(0, out));
            refuses("kindTold(0, " + out + ")", BAD, x -> x.kindTold(0, out));
        }
        for (int out : new int[] {MIN, -1, 5, MAX}) {
            refuses("trucks(" + out + ", 0)", STATE, x -> x.trucks(out, 0));
            refuses("trucks(" + out + ", 2)", STATE, x -> x.trucks(out, 2));
            refuses("feedTold(3, " + out + ")", BAD, x -> x.feedTold(3, out));
        }
        for (int out : new int[] {MIN, -1, 6, MAX}) {
            refuses("ticks(" + out + ", 0)", BAD, x -> x.ticks(out, 0));
            refuses("kindTold(" + out + ", 0)", BAD, x -> x.kindTold(out, 0));
        }
        for (int out : new int[] {MIN, -1, 8, MAX}) {
            refuses("ticks(5, " + out + ")", BAD, x -> x.ticks(5, out));
        }
        for (int out : new int[] {MIN, -1, 11, MAX}) {
            refuses("visitTold(8, " + out + ")", BAD, x -> x.visitTold(8, out));
        }
        for (int out : new int[] {MIN, -1, 9, MAX}) {
            refuses("cause(8, " + out + ")", BAD, x -> x.cause(8, out));
        }
        for (int out : new int[] {MIN, -1, 14, MAX}) {
            refuses("count(" + out + ")", BAD, x -> x.count(out));
        }
    }

    private void ahead() {
        for (int n : new int[] {MIN, -1, 0, 201, MAX}) {
            refuses("beside(" + n + ", 0)", BAD, x -> x.beside(n, 0));
        }
        for (int what : new int[] {MIN, -1, 5, MAX}) {
            refuses("beside(1, " + what + ")", BAD, x -> x.beside(1, what));
        }
        for (int set : new int[] {0, 1 << VISITS, 1 << 12 | 3, 1 << 30, MIN, MIN | 3, -1}) {
            refuses("plan(" + set + ", 1)", NONE, x -> x.plan(set, 1));
            refuses("plan(" + set + ", 0)", NONE, x -> x.plan(set, 0));
        }
        for (int set : new int[] {7, 1 | 2 | 256, 511}) {
            refuses("plan(" + set + ", 1)", BAD, x -> x.plan(set, 1));
        }
        for (int n : new int[] {MIN, -1, 0, 41, MAX}) {
            refuses("plan(3, " + n + ")", BAD, x -> x.plan(3, n));
            refuses("plan(4, " + n + ")", BAD, x -> x.plan(4, n));
        }
        for (int v = 2; v <= WENT; v++) {
            int w = v;
            refuses("plan for " + w, STATE, x -> x.plan(1 << w, 1));
            refuses("plan for 0 and " + w, STATE, x -> x.plan(1 | 1 << w, 40));
            refuses("planned(" + w + ")", STATE, x -> x.planned(w));
        }
        for (int v : new int[] {MIN, -1, VISITS, 12, 31, 32, 33, MAX}) {
            refuses("planned(" + v + ")", STATE, x -> x.planned(v));
        }
        for (int v : new int[] {MIN, -1, VISITS, 12, MAX}) {
            refuses("estimate(" + v + ", 0)", NONE, x -> x.estimate(v, 0));
            refuses("estimate(" + v + ", -1)", NONE, x -> x.estimate(v, -1));
            refuses("expects(" + v + ", 0)", NONE, x -> x.expects(v, 0));
            refuses("expects(" + v + ", -1)", NONE, x -> x.expects(v, -1));
            refuses("misses(" + v + ", 0)", NONE, x -> x.misses(v, 0));
            refuses("misses(" + v + ", -1)", NONE, x -> x.misses(v, -1));
        }
        for (int eta : new int[] {MIN, -1, 10000, MAX}) {
            refuses("estimate(0, " + eta + ")", BAD, x -> x.estimate(0, eta));
        }
        for (int known : new int[] {MIN, -1, TICK + 1, MAX}) {
            refuses("expects(0, " + known + ")", BAD, x -> x.expects(0, known));
            refuses("misses(0, " + known + ")", BAD, x -> x.misses(0, known));
        }
    }

    private void rules() {
        for (int n : new int[] {MIN, -1, 0, 9, MAX}) {
            refuses("feedTape(32, " + n + ")", BAD, x -> x.feedTape(32, n));
        }
        for (int t : new int[] {MIN, -1, 3, 6, MAX}) {
            refuses("force(" + t + ")", BAD, x -> x.force(t));
        }
        for (int v : new int[] {MIN, -1, VISITS, 12, MAX}) {
            refuses("tells(" + v + ", 0)", WingPort.NO, x -> x.tells(v, 0));
        }
        for (int part : new int[] {MIN, -1, 3, MAX}) {
            refuses("tells(0, " + part + ")", WingPort.NO, x -> x.tells(0, part));
        }
    }

    private void host() {
        for (int s : new int[] {MIN, -1, 4, MAX}) {
            refuses("sheet(" + s + ", 0, 5)", BAD, x -> x.sheet(s, 0, 5));
            refuses("sheet(" + s + ", 0, -1)", BAD, x -> x.sheet(s, 0, -1));
            refuses("sheet(" + s + ", -1, 0)", BAD, x -> x.sheet(s, -1, 0));
            refuses("cell(" + s + ", 0, 5)", BAD, x -> x.cell(s, 0, 5));
            refuses("copy(" + s + ", 0, 0, 0, 1)", BAD, x -> x.copy(s, 0, 0, 0, 1));
            refuses("copy(3, 0, " + s + ", 0, 1)", BAD, x -> x.copy(3, 0, s, 0, 1));
            refuses("visits(" + s + ", 0, 0, 1)", BAD, x -> x.visits(s, 0, 0, 1));
        }
        for (int sort : new int[] {MIN, -2, 3, MAX}) {
            refuses("sheet(0, " + sort + ", 5)", BAD, x -> x.sheet(0, sort, 5));
            refuses("sheet(0, " + sort + ", -5)", BAD, x -> x.sheet(0, sort, -5));
            refuses("visits(3, " + sort + ", 0, 1)", BAD, x -> x.visits(3, sort, 0, 1));
        }
        for (int sort = 0; sort < 3; sort++) {
            int t = sort;
            refuses("a sheet of 41, sort " + t, BAD, x -> x.sheet(0, t, 41));
            refuses("a sheet of far too many, sort " + t, BAD, x -> x.sheet(0, t, MAX));
            refuses("a sheet of -1, sort " + t, BELOW, x -> x.sheet(0, t, -1));
            refuses("a sheet of far too few, sort " + t, BELOW, x -> x.sheet(0, t, MIN));
            refuses("visits by a missing sheet, sort " + t, NOTHING, x -> x.visits(3, t, MIN, 1));
        }
        for (int i : new int[] {MIN, -1, 0, 40, MAX}) {
            refuses("cell(3, " + i + ", 5)", NOTHING, x -> x.cell(3, i, 5));
            if (i != 0) {
                refuses("cell(0, " + i + ", 5)", OUTSIDE, x -> x.cell(0, i, 5));
            }
        }
        refuses("cell behind the last of 5", OUTSIDE, x -> x.cell(0, 5, 77));
        refuses("cell behind the last of 6", OUTSIDE, x -> x.cell(1, 6, 77));
        for (int n : new int[] {MIN, -1, 0, 1, MAX}) {
            refuses("copy from a missing sheet of " + n, NOTHING, x -> x.copy(3, 0, 0, 0, n));
            refuses("copy to a missing sheet of " + n, NOTHING, x -> x.copy(1, 0, 3, 0, n));
            refuses("copy to another sort of " + n, UNLIKE, x -> x.copy(0, 0, 1, 0, n));
        }
        copiesOutside();
        visitsOutside();
    }

    /** Sheets 0 and 2 are of bytes, five and four of them. */
    private void copiesOutside() {
        int[][] rows = {{0, 0, -1}, {0, 0, MIN}, {-1, 0, 1}, {0, -1, 1}, {MIN, 0, 1}, {0, MIN, 1}, {MAX, 0, 1},
            {0, MAX, 1}, {0, 0, 5}, {2, 0, 4}, {0, 1, 4}, {5, 0, 1}, {0, 4, 1}, {6, 0, 0}, {0, 5, 0}, {-1, 0, 0},
            {0, -1, 0}, {0, 0, MAX}, {1, 0, MAX}, {0, 1, MAX}, {MAX, MAX, MAX}};
        for (int[] row : rows) {
            refuses("copy of " + row[2] + " from " + row[0] + " to " + row[1], OUTSIDE,
                x -> x.copy(0, row[0], 2, row[1], row[2]));
        }
    }

    private void visitsOutside() {
        for (int n : new int[] {MIN, -1, 11, MAX}) {
            refuses("visits(0, 0, 0, " + n + ")", BAD, x -> x.visits(0, 0, 0, n));
            refuses("visits(3, 0, 0, " + n + ")", BAD, x -> x.visits(3, 0, 0, n));
            refuses("visits(0, 1, 0, " + n + ")", BAD, x -> x.visits(0, 1, 0, n));
        }
        for (int from : new int[] {MIN, -1, 2, 3, 4, 5, 40, MAX - 3, MAX}) {
            refuses("visits(0, 0, " + from + ", 1)", OUTSIDE, x -> x.visits(0, 0, from, 1));
            refuses("visits(0, 0, " + from + ", 10)", OUTSIDE, x -> x.visits(0, 0, from, 10));
            refuses("visits(0, 2, " + from + ", 1)", UNLIKE, x -> x.visits(0, 2, from, 1));
        }
        refuses("visits by an unlike sort", UNLIKE, x -> x.visits(1, 0, 1, 1));
        for (int v : new int[] {MIN, -1, VISITS, 12, MAX}) {
            refuses("taken(" + v + ", 0)", NOTHING, x -> x.taken(v, 0));
            refuses("taken(" + v + ", 6)", BAD, x -> x.taken(v, 6));
        }
        for (int kind : new int[] {MIN, -1, 6, MAX}) {
            refuses("taken(0, " + kind + ")", BAD, x -> x.taken(0, kind));
        }
        refuses("a JET taken for a WIDE", UNLIKE, x -> x.taken(0, 3));
        refuses("a PLANE that lands taken for a JET", UNLIKE, x -> x.taken(2, 1));
    }

    private void whenFull() {
        for (int size = 1; size <= 3; size++) {
            int s = size;
            refuses("a seventh stand", FULL, x -> x.stand(s));
        }
        refuses("a bad seventh stand", BAD, x -> x.stand(4));
        refuses("a thirteenth visit", FULL, x -> x.visit(0, 5, 9, 9));
        refuses("a bad thirteenth visit", BAD, x -> x.visit(0, 5, 5, 9));
        refuses("a seventeenth feed", FULL, x -> x.feed(0, 1, 1, 1));
        refuses("a bad seventeenth feed", BAD, x -> x.feed(0, 1, 1, 0));
        refuses("a seventeenth feed to none", NONE, x -> x.feed(0, 12, 1, 1));
        refuses("estimate 40", FULL, x -> x.estimate(11, 9));
        refuses("a bad estimate 40", BAD, x -> x.estimate(11, 10000));
        refuses("estimate 40 of none", NONE, x -> x.estimate(12, 9));
        refuses("a seventh text", FULL, x -> x.text());
        refuses("no seventh text to force", BAD, x -> x.force(6));
        for (int n = 1; n <= 8; n++) {
            int m = n;
            refuses(m + " bytes behind 160", FULL, x -> x.feedTape(32, m));
        }
        refuses("9 bytes behind 160", BAD, x -> x.feedTape(32, 9));
        refuses("a thirteenth visit to be late", NONE, x -> x.late(12, 0));
        refuses("a seventh stand to be wished", NONE, x -> x.wish(0, 6));
        refuses("a thirteenth visit to be planned", NONE, x -> x.plan(1 << 12, 1));
        refuses("a seventeenth feed to be told", NONE, x -> x.feedTold(16, 0));
    }

    private void atTheEnd() {
        refuses("run beyond 9999", FULL, x -> x.run(30));
        refuses("run far beyond 9999", FULL, x -> x.run(200));
        refuses("a bad run beyond 9999", BAD, x -> x.run(201));
        refuses("beside beyond 9999", FULL, x -> x.beside(30, 0));
        refuses("beside beyond 9999 of none such", BAD, x -> x.beside(30, 5));
        refuses("plan beyond 9999", FULL, x -> x.plan(1, 30));
        refuses("a bad plan beyond 9999", BAD, x -> x.plan(1, 41));
        refuses("a plan beyond 9999 for none", NONE, x -> x.plan(2, 30));
    }

    private void whenNew() {
        refuses("no visit is late", NONE, x -> x.late(0, 0));
        refuses("no visit has a wish", NONE, x -> x.wish(0, -1));
        refuses("no visit is fed", NONE, x -> x.feed(0, 0, 0, 0));
        refuses("no visit is told", NONE, x -> x.visitTold(0, 0));
        refuses("no visit has causes", NONE, x -> x.cause(0, 0));
        refuses("no feed is told", NONE, x -> x.feedTold(0, 0));
        refuses("no stand is told", STATE, x -> x.standTold(0, 0));
        refuses("no visit is planned", NONE, x -> x.plan(1, 1));
        refuses("no plan is told", STATE, x -> x.planned(0));
        refuses("no visit is estimated", NONE, x -> x.estimate(0, 0));
        refuses("no visit is expected", NONE, x -> x.expects(0, 0));
        refuses("no visit misses", NONE, x -> x.misses(0, 0));
        refuses("no visit has rules", WingPort.NO, x -> x.tells(0, 0));
        refuses("no visit is taken", NOTHING, x -> x.taken(0, 0));
        refuses("no text but 0", BAD, x -> x.force(1));
        for (int s = 0; s < 4; s++) {
            int t = s;
            refuses("sheet " + t + " is missing", NOTHING, x -> x.cell(t, 0, 0));
            refuses("sheet " + t + " is missing to copy", NOTHING, x -> x.copy(t, 0, t, 0, 0));
            refuses("sheet " + t + " is missing to visits", NOTHING, x -> x.visits(t, 0, 0, 0));
        }
    }
}
