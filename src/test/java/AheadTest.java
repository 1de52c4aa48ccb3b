/** Promises 17 to 23: what would be, the plan, and what was thought when. */
public final class AheadTest {
    private static final Check CHECK = new Check("ahead");

    public static void main(String[] args) {
        besideRefuses();
        besideIsWhatComes();
        besideCarriesAll();
        besideCarriesEach();
        besideCarriesIce();
        besideCarriesCarts();
        besideCarriesRunways();
        besideCarriesByATick();
        besideAsTold();
        planRefuses();
        planOfOne();
        planOfTwo();
        planOfLikeRows();
        planAtOnce();
        planWhateverIsWished();
        planOfTooSmall();
        planOfNothing();
        planOfTheLast();
        planChangesNothing();
        planIsKept();
        settle();
        settleOfOthers();
        settleOfStates();
        estimates();
        expects();
        expectsOfKinds();
        expectsWhateverIsDone();
        misses();
        missesByTheLoad();
        missesOfKinds();
        missesAsThoughtThen();
        missesOfManyFeeds();
        CHECK.end();
    }

    private static void besideRefuses() {
        WingPort x = new WingPort();
        CHECK.due("beside(0, 0)", x.beside(0, 0), WingPort.BAD);
        CHECK.due("beside(201, 0)", x.beside(201, 0), WingPort.BAD);
        CHECK.due("beside(-5, 0)", x.beside(-5, 0), WingPort.BAD);
        CHECK.due("beside(1, 5)", x.beside(1, 5), WingPort.BAD);
        CHECK.due("beside(1, -1)", x.beside(1, -1), WingPort.BAD);
        CHECK.due("beside(200, 4)", x.beside(200, 4), 0);
        Ports.runTill(x, 9900);
        CHECK.due("to 9999", x.beside(99, 0), 0);
        CHECK.due("beyond", x.beside(100, 0), WingPort.FULL);
        CHECK.due("bad, ahead of beyond", x.beside(100, 5), WingPort.BAD);
    }

    private static WingPort busyPort() {
        WingPort x = Ports.with(1, 1, 3, 2);
        x.set(6, 1);
        x.set(7, 1);
        x.visit(0, 0, 30, 35);
        x.visit(1, 1, 40, 99);
        x.visit(3, 2, 50, 99);
        x.visit(5, 3, 40, 30);
        x.feed(3, 0, 9, 10);
        x.feed(0, 2, 4, 70);
        x.feed(1, 0, 2, 5);
        return x;
    }

    private static void besideIsWhatComes() {
        int[] told = {8, 7, 6, 9, 10};
        for (int n = 1; n <= 200; n += 13) {
            WingPort x = busyPort();
            x.run(20);
            String before = Ports.picture(x);
            int[] outcome = new int[5];
            for (int what = 0; what < 5; what++) {
                outcome[what] = x.beside(n, what);
            }
            CHECK.holds("nothing changes in " + n, before.equals(Ports.picture(x)));
            x.run(n);
            CHECK.due("late ticks in " + n, outcome[0], x.count(told[0]));
            int gone = 0;
            int went = 0;
            for (int v = 0; v < 4; v++) {
                gone += x.visitTold(v, 1) == 7 ? 1 : 0;
                went += x.visitTold(v, 1) == 8 ? 1 : 0;
            }
            CHECK.due("GONE in " + n, outcome[1], gone);
            CHECK.due("WENT in " + n, outcome[2], went);
            CHECK.due("missed in " + n, outcome[3], x.count(told[3]));
            CHECK.due("spare in " + n, outcome[4], x.count(told[4]));
        }
        WingPort x = busyPort();
        CHECK.due("GONE in 200", x.beside(200, 1), 3);
        CHECK.due("WENT in 200", x.beside(200, 2), 1);
        CHECK.due("spare in 200", x.beside(200, 4), 0);
    }

    /** What is told and under way counts beside, too: lateness, carts, stands, ice and the runways' last. */
    private static void besideCarriesAll() {
        WingPort x = coldPort();
        for (int from = 0; from < 120; from += 7) {
            Ports.runTill(x, from);
            for (int n : new int[] {1, 20, 60, 150}) {
                WingPort y = coldPort();
                Ports.runTill(y, from + n);
                int left = 0;
                for (int v = 0; v < 3; v++) {
                    left += y.visitTold(v, 1) == 7 ? 1 : 0;
                }
                CHECK.due("late ticks from " + from + " in " + n, x.beside(n, 0), y.count(8));
                CHECK.due("GONE from " + from + " in " + n, x.beside(n, 1), left);
                CHECK.due("missed from " + from + " in " + n, x.beside(n, 3), y.count(9));
            }
        }
    }

    /** A visit alone, of which one thing that was told or has come counts. */
    private static void besideCarriesEach() {
        WingPort x = Ports.with(1, 1);
        x.visit(0, 0, 10, 999);
        x.late(0, 12);
        // comes at 12, is pushed till 45, leaves at 49
        CHECK.due("what it is late", x.beside(60, 0), 39);
        WingPort y = Ports.with(1, 1);
        y.visit(0, 0, 10, 999);
        y.visit(0, 20, 30, 999);
        y.run(20);
        CHECK.due("the stand that it leaves to another", y.beside(100, 1), 2);
        WingPort z = Ports.with(1, 1);
        z.set(6, 1);
        z.visit(0, 0, 72, 999);
        z.run(50);
        CHECK.due("when it was iced", z.beside(60, 0), 4);
        WingPort u = Ports.with(2, 1, 2);
        u.visit(1, 0, 30, 999);
        u.visit(0, 0, 200, 999);
        u.visit(1, 20, 50, 999);
        u.run(20);
        // stand 1 is free from 41 on, stand 0 would be too small
        CHECK.due("which stand it leaves to another", u.beside(100, 2), 0);
    }

    /** Iced at 36 and pushed till 100, it is iced again till 106. */
    private static void besideCarriesIce() {
        WingPort x = Ports.with(1, 1);
        x.set(6, 1);
        x.visit(0, 0, 100, 999);
        Ports.runTill(x, 90);
        CHECK.due("iced too long ago", x.beside(30, 0), 6);
        Ports.runTill(x, 103);
        CHECK.due("under way again", x.beside(17, 0), 6);
        CHECK.due("leaves at 106", x.beside(5, 1), 0);
        CHECK.due("is gone at 108", x.beside(6, 1), 1);
    }

    /** LOAD is done at 30: what comes by then on a cart for 16 ticks is missed, for 15 it isn't. */
    private static void besideCarriesCarts() {
        for (int from : new int[] {0, 5, 14, 15, 29}) {
            WingPort x = Ports.with(2, 1, 1);
            x.set(8, 2);
            x.visit(0, 0, 90, 999);
            x.visit(0, 0, 20, 999);
            x.feed(0, 1, 3, 16);
            x.feed(0, 1, 7, 15);
            x.feed(0, 1, 9, 40);
            if (from > 0) {
                x.run(from);
            }
            CHECK.due("missed by 30, from " + from, x.beside(31 - from, 3), 3);
            CHECK.due("missed by 53, from " + from, x.beside(54 - from, 3), 3);
            CHECK.due("missed by 54, from " + from, x.beside(55 - from, 3), 12);
        }
    }

    /** A PROP, then a PLANE: it lands as the runway has ENDED and by what is PREV, is pushed 33 ticks later, and leaves. */
    private static void besideCarriesRunways() {
        String[] rules = {"prio 0; sep 0; hold 0;", "prio 0; sep 2; hold 0;", "prio 0; sep 9 - prev; hold 0;"};
        int[] lands = {2, 4, 9};
        for (int i = 0; i < rules.length; i++) {
            WingPort x = Ports.with(2, 1, 1);
            Ports.rule(x, rules[i]);
            x.visit(2, 0, 90, 999);
            x.visit(0, 0, 5, 999);
            x.run(1);
            CHECK.due("late by " + rules[i], x.beside(80, 0), lands[i] + 37 - 5);
            CHECK.due("late by " + rules[i] + " again", x.beside(80, 0), lands[i] + 37 - 5);
        }
    }

    /** What is carried along is so to the tick: a LIMIT, and when a plane was iced. */
    private static void besideCarriesByATick() {
        for (int crew = 29; crew < 32; crew++) {
            WingPort x = Ports.with(1, 1);
            x.visit(0, 0, 20, crew);
            x.run(5);
            CHECK.due("PUSH at 30, LIMIT " + crew, x.beside(60, 1), crew < 30 ? 0 : 1);
        }
        for (int etd = 72; etd < 74; etd++) {
            WingPort x = Ports.with(1, 1);
            x.set(6, 1);
            x.visit(0, 0, etd, 999);
            Ports.runTill(x, 60);
            CHECK.due("iced at 36, READY at " + (etd + 4), x.beside(60, 0), etd == 72 ? 4 : 4 + 6);
        }
    }

    /** BESIDE is by what is told now: THE RULE, FOG, SPARE crews, trucks, stands, runways. */
    private static void besideAsTold() {
        WingPort x = Ports.with(1, 1, 1);
        x.visit(0, 0, 1, 999);
        x.visit(0, 0, 1, 999);
        x.run(1);
        // the first is late by ARRIVAL in ticks 1 to 9, the other too, wherever it is
        CHECK.due("both are there, late", x.beside(9, 0), 18);
        Ports.text(x, "prio 0; sep 90; hold 0;");
        CHECK.due("WENT by rule 0", x.beside(70, 2), 0);
        x.force(1);
        CHECK.due("WENT by rule 1", x.beside(70, 2), 1);
        x.set(8, 2);
        CHECK.due("WENT with two runways", x.beside(70, 2), 0);
        x.set(5, 1);
        CHECK.due("WENT in FOG", x.beside(70, 2), 1);
        x.force(0);
        CHECK.due("WENT by rule 0 in FOG", x.beside(70, 2), 0);
        CHECK.due("GONE", x.beside(90, 1), 2);
        x.set(0, 0);
        CHECK.due("GONE without stairs", x.beside(90, 1), 0);
        x.set(7, 5);
        CHECK.due("SPARE", x.beside(90, 4), 5);
        x.visit(3, 1, 2, 9);
        CHECK.due("a WIDE WENT", x.beside(70, 2), 1);
        x.stand(3);
        CHECK.due("not with a stand of 3", x.beside(70, 2), 0);
        CHECK.due("TICK is as it was", x.count(0), 1);
    }

    private static WingPort coldPort() {
        WingPort x = Ports.with(2, 1, 1, 2);
        x.set(6, 1);
        Ports.rule(x, "prio 0; sep prev * 9; hold 60;");
        x.visit(1, 0, 2, 999);
        x.visit(0, 0, 60, 999);
        x.visit(0, 1, 70, 999);
        x.late(2, 12);
        x.feed(1, 2, 5, 20);
        return x;
    }

    private static void planRefuses() {
        WingPort x = Ports.with(1, 1, 3);
        x.visit(0, 0, 60, 99);
        x.visit(0, 20, 60, 99);
        x.visit(3, 20, 60, 99);
        x.run(3);
        CHECK.due("none", x.plan(0, 5), WingPort.NONE);
        CHECK.due("no such one", x.plan(8, 5), WingPort.NONE);
        CHECK.due("no such one, of many", x.plan(15, 99), WingPort.NONE);
        CHECK.due("the highest bit", x.plan(Integer.MIN_VALUE, 5), WingPort.NONE);
        CHECK.due("all bits", x.plan(-1, 5), WingPort.NONE);
        CHECK.due("three", x.plan(7, 5), WingPort.BAD);
        CHECK.due("0 ticks", x.plan(6, 0), WingPort.BAD);
        CHECK.due("41 ticks", x.plan(6, 41), WingPort.BAD);
        CHECK.due("41 ticks for one that stands", x.plan(3, 41), WingPort.BAD);
        CHECK.due("one lands", x.plan(3, 5), WingPort.STATE);
        CHECK.due("no plan", x.planned(1), WingPort.STATE);
        CHECK.due("two", x.plan(6, 40), 0);
        WingPort y = new WingPort();
        y.visit(0, 0, 9999, 99);
        Ports.runTill(y, 59);
        CHECK.due("holds", y.plan(1, 1), 0);
        y.visit(0, 9998, 9999, 99);
        Ports.runTill(y, 9960);
        CHECK.due("to 9999", y.plan(2, 39), 0);
        CHECK.due("beyond", y.plan(2, 40), WingPort.FULL);
        CHECK.due("one went, and beyond", y.plan(1, 40), WingPort.STATE);
    }

    /**
     * Some PLANES with time come first, then a WIDE, then a SHUTTLE, with small stands for the PLANES
     * and a large one. If a PLANE stands on the large one, the WIDE holds, late in each tick as it is
     * anyhow, and the SHUTTLE finds a small one and is soon gone.
     */
    private static WingPort tightPort(int planes) {
        WingPort x = Ports.with(3);
        x.set(8, 2);
        Ports.rule(x, "prio 0; sep 0; hold 0;");
        for (int v = 0; v < planes; v++) {
            x.stand(1);
            x.visit(0, 0, 300, 999);
        }
        x.stand(3);
        x.visit(3, planes - 1, 10, 999);
        x.visit(4, 2, 3, 999);
        return x;
    }

    private static void planOfOne() {
        WingPort x = tightPort(1);
        // The WIDE is late from 10 to 39, the SHUTTLE from 3 to 39.
        CHECK.due("as it is told", x.beside(40, 0), 30 + 37);
        // The SHUTTLE lands at 2, stands at 8, is loaded at 22, pushed at 25 and leaves at 29.
        CHECK.due("the PLANE on the large stand", x.plan(1, 40), 30 + 26);
        CHECK.due("it is planned", x.planned(0), 1);
        CHECK.due("it isn't told yet", x.visitTold(0, 9), -1);
        CHECK.due("nor done yet", x.beside(40, 0), 67);
        CHECK.due("it is settled", x.settle(), 1);
        CHECK.due("it is told", x.visitTold(0, 9), 1);
        CHECK.due("as it was planned", x.beside(40, 0), 56);
        WingPort y = tightPort(1);
        CHECK.due("better by a tick", y.plan(1, 30), 20 + 26);
        CHECK.due("so it is planned", y.planned(0), 1);
        CHECK.due("better by none", y.plan(1, 29), 19 + 26);
        CHECK.due("so it isn't", y.planned(0), -1);
        CHECK.due("ahead of what it mends", x.plan(1, 25), 15 + 22);
        CHECK.due("the first of like ones is none, whatever it wishes", x.planned(0), -1);
    }

    private static void planOfTwo() {
        WingPort x = tightPort(1);
        CHECK.due("with the WIDE", x.plan(3, 40), 56);
        CHECK.due("the PLANE on the large stand", x.planned(0), 1);
        CHECK.due("the WIDE has no wish", x.planned(1), -1);
        CHECK.due("with the SHUTTLE", x.plan(5, 40), 56);
        CHECK.due("the SHUTTLE has no wish", x.planned(2), -1);
        CHECK.due("two wishes", x.settle(), 2);
        WingPort y = tightPort(1);
        CHECK.due("a WIDE can't wish the small stand", y.plan(2, 40), 67);
        y.wish(0, 1);
        CHECK.due("other wishes are as told", y.plan(6, 40), 56);
    }

    private static void planOfLikeRows() {
        WingPort x = tightPort(2);
        CHECK.due("as it is told", x.beside(40, 0), 67);
        CHECK.due("either PLANE on the large stand", x.plan(3, 40), 56);
        CHECK.due("the first row: none for the first", x.planned(0), -1);
        CHECK.due("and the large stand for the other", x.planned(1), 2);
        CHECK.due("the other PLANE alone", x.plan(2, 40), 56);
        CHECK.due("its wish", x.planned(1), 2);
        CHECK.due("the first isn't in it", x.planned(0), WingPort.STATE);
        WingPort y = Ports.with(1, 1, 1, 1, 1, 1, 1);
        y.visit(0, 5, 60, 99);
        y.visit(0, 5, 60, 99);
        CHECK.due("among six stands", y.plan(3, 40), 0);
    }

    /** What stood beside before does not count: a plan may be an object's first look ahead. */
    private static void planAtOnce() {
        WingPort x = tightPort(2);
        CHECK.due("either PLANE on the large stand", x.plan(3, 40), 56);
        CHECK.due("none for the first", x.planned(0), -1);
        CHECK.due("the large one for the other", x.planned(1), 2);
        WingPort y = Ports.with(3, 1, 1);
        y.set(8, 2);
        Ports.rule(y, "prio 0; sep 0; hold 0;");
        y.visit(0, 0, 300, 999);
        y.visit(0, 0, 300, 999);
        CHECK.due("two PLANES in time", y.beside(40, 0), 0);
        y.visit(3, 1, 10, 999);
        y.visit(4, 2, 3, 999);
        y.stand(3);
        CHECK.due("what came behind that counts", y.plan(3, 40), 56);
        CHECK.due("also as a wish", y.planned(1), 2);
    }

    /**
     * A JET has held for 50 ticks, late; as two stands are built, a PLANE and a WIDE go ahead of it. If the
     * PLANE has the lesser stand, there is none for the JET, which is late for 10 ticks more and went.
     */
    private static void planWhateverIsWished() {
        int[] orders = {0, 1};
        for (int jet : orders) {
            int plane = 1 - jet;
            WingPort x = Ports.with(3);
            Ports.rule(x, "prio (kind = 3) + (kind = 0) * 2; sep 0; hold 0;");
            x.visit(jet == 0 ? 1 : 0, jet == 0 ? 0 : 50, jet == 0 ? 1 : 300, 999);
            x.visit(jet == 0 ? 0 : 1, jet == 0 ? 50 : 0, jet == 0 ? 300 : 1, 999);
            x.visit(3, 50, 300, 999);
            Ports.runTill(x, 50);
            x.stand(2);
            x.stand(3);
            CHECK.due("the PLANE wishes the large one", x.wish(plane, 1), 6);
            CHECK.due("as it is told", x.beside(40, 0), 49 + 40);
            CHECK.due("two wishes", x.plan(3, 40), 49 + 10);
            CHECK.due("the PLANE wishes none", x.planned(plane), -1);
            CHECK.due("nor does the JET", x.planned(jet), -1);
            CHECK.due("one wish", x.plan(1 << plane, 40), 49 + 10);
            CHECK.due("it is none", x.planned(plane), -1);
            CHECK.due("of the JET alone", x.plan(1 << jet, 40), 49 + 40);
        }
    }

    /**
     * A PLANE lands, and behind it a SHUTTLE may for long not land but behind a JET. There is a stand for
     * the JET too, but it is too small.
     */
    private static WingPort smallPort(int... kinds) {
        WingPort x = Ports.with(3, 1, 1, 1);
        Ports.rule(x, "prio kind = 1; sep (prev = 0) * (kind = 4) * 35; hold 0;");
        for (int kind : kinds) {
            x.visit(kind, kind == 0 ? 0 : 1, kind == 4 ? 9 : 300, 999);
        }
        return x;
    }

    private static void planOfTooSmall() {
        int[][] orders = {{0, 1, 4}, {1, 0, 4}, {0, 4, 1}, {4, 1, 0}, {1, 4, 0}, {4, 0, 1}};
        for (int[] kinds : orders) {
            WingPort x = smallPort(kinds);
            int jet = kinds[0] == 1 ? 0 : kinds[1] == 1 ? 1 : 2;
            // the SHUTTLE is late from 9 to 39: it lands at 37
            CHECK.due("as it is told", x.beside(40, 0), 31);
            CHECK.due("the JET can wish none", x.plan(1 << jet, 40), 31);
            CHECK.due("it wishes none", x.planned(jet), -1);
            for (int v = 0; v < 3; v++) {
                CHECK.due("nor as one of two", x.plan(1 << jet | 1 << v, 40), 31);
                CHECK.due("it wishes none of two", x.planned(jet), -1);
                CHECK.due("nor does the other", x.planned(v), -1);
            }
            x.stand(2);
            // now the JET lands at 2 and the SHUTTLE at 4, and it would be gone at 33
            CHECK.due("with a stand of its size", x.plan(1 << jet, 40), 22);
            CHECK.due("that is so with no wish", x.planned(jet), -1);
        }
    }

    /** With no stand there is one row: all wish none. */
    private static void planOfNothing() {
        WingPort x = new WingPort();
        x.visit(0, 0, 5, 999);
        x.visit(0, 9, 12, 999);
        x.run(8);
        CHECK.due("late already", x.count(8), 3);
        for (int n = 1; n <= 40; n++) {
            int late = 3 + n + Math.max(0, n - 4);
            CHECK.due("one in " + n, x.plan(1, n), late);
            CHECK.due("the other in " + n, x.plan(2, n), late);
            CHECK.due("two in " + n, x.plan(3, n), late);
        }
        CHECK.due("their wishes", x.planned(0) + x.planned(1), -2);
        CHECK.due("one DUE, one HOLDS", x.settle(), 2);
    }

    private static void planOfTheLast() {
        WingPort x = Ports.with(1, 1, 3);
        for (int v = 0; v < 12; v++) {
            x.visit(3, 100, 300, 999);
        }
        CHECK.due("the twelfth", x.plan(1 << 11, 9), 0);
        CHECK.due("is in it", x.planned(11), -1);
        CHECK.due("the first isn't", x.planned(0), WingPort.STATE);
        CHECK.due("the first and the twelfth", x.plan(1 << 11 | 1, 9), 0);
        CHECK.due("the first is", x.planned(0), -1);
        CHECK.due("the eleventh isn't", x.planned(10), WingPort.STATE);
        x.wish(0, 1);
        x.wish(11, 1);
        CHECK.due("two are settled", x.settle(), 2);
        CHECK.due("the first wishes none", x.visitTold(0, 9), -1);
        CHECK.due("the twelfth wishes none", x.visitTold(11, 9), -1);
    }

    private static void planChangesNothing() {
        WingPort x = tightPort(1);
        WingPort y = tightPort(1);
        y.plan(1, 40);
        for (int what = 0; what < 11; what++) {
            for (int v = 0; v < 3; v++) {
                CHECK.due("visitTold(" + v + ", " + what + ") behind a plan", y.visitTold(v, what), x.visitTold(v, what));
            }
        }
        for (int what = 0; what < 14; what++) {
            CHECK.due("count(" + what + ") behind a plan", y.count(what), x.count(what));
        }
        x.run(60);
        y.run(60);
        CHECK.due("what comes behind a plan", y.count(8), x.count(8));
    }

    private static void planIsKept() {
        WingPort x = Ports.with(1, 1, 2, 3);
        x.visit(1, 20, 60, 99);
        x.visit(3, 20, 60, 99);
        x.visit(0, 5, 60, 99);
        CHECK.due("nothing was kept", x.planned(0), WingPort.STATE);
        CHECK.due("a plan", x.plan(5, 10), 0);
        CHECK.due("it is in it", x.planned(0), -1);
        CHECK.due("it isn't in it", x.planned(1), WingPort.STATE);
        CHECK.due("no such visit", x.planned(3), WingPort.STATE);
        CHECK.due("no such visit below", x.planned(-1), WingPort.STATE);
        CHECK.due("no such visit far above", x.planned(32), WingPort.STATE);
        x.plan(7, 10);
        CHECK.due("a refused one isn't kept", x.planned(2), -1);
        CHECK.due("the next one", x.plan(2, 10), 0);
        CHECK.due("is kept instead", x.planned(0), WingPort.STATE);
        CHECK.due("with its one", x.planned(1), -1);
        CHECK.due("one wish", x.settle(), 1);
        CHECK.due("and again", x.settle(), 1);
    }

    private static void settle() {
        WingPort x = Ports.with(1, 1, 2, 3);
        x.visit(1, 5, 60, 99);
        x.visit(3, 90, 160, 99);
        x.wish(0, 2);
        x.wish(1, 2);
        CHECK.due("there is no plan", x.settle(), 0);
        CHECK.due("wishes stay", x.visitTold(0, 9), 2);
        x.plan(3, 20);
        x.run(5);
        CHECK.due("due", x.settle(), 2);
        CHECK.due("wish of none", x.visitTold(1, 9), -1);
        x.wish(1, 2);
        x.run(1);
        CHECK.due("one lands", x.settle(), WingPort.STATE);
        CHECK.due("nothing is settled", x.visitTold(1, 9), 2);
    }

    /** WISHES become those of that PLAN: its own visits', whichever they are, and no others'. */
    private static void settleOfOthers() {
        WingPort x = tightPort(2);
        x.plan(3, 40);
        tellWishes(x);
        CHECK.due("two wishes", x.settle(), 2);
        wishes(x, -1, 2, 2, 1);
        tellWishes(x);
        wishes(x, 1, 0, 2, 1);
        x.wish(0, -1);
        x.wish(3, -1);
        CHECK.due("the second PLANE on the large stand", x.plan(2, 40), 56);
        tellWishes(x);
        CHECK.due("one wish", x.settle(), 1);
        wishes(x, 1, 2, 2, 1);
        WingPort y = tightPort(3);
        y.wish(0, 1);
        CHECK.due("the last two PLANES", y.plan(6, 40), y.plan(4, 40));
        y.plan(6, 40);
        CHECK.due("the second wishes none", y.planned(1), -1);
        CHECK.due("the third the large stand", y.planned(2), 3);
        CHECK.due("two of five", y.settle(), 2);
        wishes(y, 1, -1, 3, -1, -1);
    }

    private static void tellWishes(WingPort x) {
        x.wish(0, 1);
        x.wish(1, 0);
        x.wish(2, 2);
        x.wish(3, 1);
    }

    private static void wishes(WingPort x, int... due) {
        for (int v = 0; v < due.length; v++) {
            CHECK.due("WISH of " + v, x.visitTold(v, 9), due[v]);
        }
    }

    /** STATE: one isn't DUE, nor HOLDS any more. */
    private static void settleOfStates() {
        int[] ticks = {1, 3, 7, 31, 34, 38, 40};
        int[] states = {2, 3, 4, 4, 5, 6, 7};
        for (int i = 0; i < ticks.length; i++) {
            WingPort x = Ports.with(1, 1, 1);
            x.visit(0, 0, 30, 999);
            x.visit(0, 200, 300, 999);
            x.plan(3, 1);
            x.wish(1, 1);
            Ports.runTill(x, ticks[i]);
            CHECK.due("STATE", x.visitTold(0, 1), states[i]);
            CHECK.due("settle in STATE " + states[i], x.settle(), WingPort.STATE);
            CHECK.due("the other's wish stays", x.visitTold(1, 9), 1);
            CHECK.due("the plan is there still", x.planned(0), -1);
        }
        WingPort y = Ports.with(1, 1);
        y.visit(1, 0, 30, 999);
        y.visit(0, 200, 300, 999);
        y.plan(3, 1);
        y.wish(1, 0);
        Ports.runTill(y, 60);
        CHECK.due("HOLDS for 59 ticks", y.settle(), 2);
        CHECK.due("its wish", y.visitTold(1, 9), -1);
        y.run(1);
        CHECK.due("WENT", y.settle(), WingPort.STATE);
        y.plan(2, 1);
        CHECK.due("another plan", y.settle(), 1);
    }

    private static void estimates() {
        WingPort x = new WingPort();
        x.visit(0, 10, 20, 99);
        CHECK.due("estimate(1, 0)", x.estimate(1, 0), WingPort.NONE);
        CHECK.due("estimate(-1, -1)", x.estimate(-1, -1), WingPort.NONE);
        CHECK.due("estimate(0, -1)", x.estimate(0, -1), WingPort.BAD);
        CHECK.due("estimate(0, 10000)", x.estimate(0, 10000), WingPort.BAD);
        for (int e = 0; e < 40; e++) {
            CHECK.due("estimate " + e, x.estimate(0, e == 0 ? 9999 : e == 1 ? 0 : e), e);
        }
        CHECK.due("the next", x.estimate(0, 5), WingPort.FULL);
        CHECK.due("a bad next", x.estimate(0, -1), WingPort.BAD);
        CHECK.due("count(7)", x.count(7), 40);
        CHECK.due("it changes nothing in the port", x.visitTold(0, 4), 10);
        WingPort y = Ports.with(1, 1);
        y.visit(0, 10, 60, 99);
        y.estimate(0, 3);
        y.run(11);
        CHECK.due("it lands at its eta", y.visitTold(0, 2), 10);
        CHECK.due("also of one that landed", y.estimate(0, 500), 1);
    }

    private static void expects() {
        WingPort x = new WingPort();
        x.visit(0, 10, 20, 99);
        CHECK.due("expects(1, 0)", x.expects(1, 0), WingPort.NONE);
        CHECK.due("expects(-1, 1)", x.expects(-1, 1), WingPort.NONE);
        CHECK.due("expects(0, 1)", x.expects(0, 1), WingPort.BAD);
        CHECK.due("expects(0, -1)", x.expects(0, -1), WingPort.BAD);
        // 2 + 4 to the stand; 2 + 6 + (4 + 4) + 8 + 3 on it
        CHECK.due("by its eta", x.expects(0, 0), 10 + 6 + 27);
        x.late(0, 300);
        CHECK.due("what it is late isn't thought", x.expects(0, 0), 43);
        x.run(5);
        x.estimate(0, 100);
        CHECK.due("ahead of the telling", x.expects(0, 4), 43);
        CHECK.due("at the telling", x.expects(0, 5), 133);
        x.estimate(0, 50);
        CHECK.due("the latest of one tick", x.expects(0, 5), 83);
        x.run(5);
        x.visit(0, 10, 200, 99);
        x.estimate(1, 12);
        x.estimate(0, 0);
        CHECK.due("the one told by then", x.expects(0, 9), 83);
        CHECK.due("told later", x.expects(0, 10), 33);
        CHECK.due("not ahead of etd", x.expects(1, 10), 200);
        x.estimate(1, 9999);
        CHECK.due("far off", x.expects(1, 10), 9999 + 33);
        CHECK.due("what the other one's is", x.expects(0, 10), 33);
    }

    private static void expectsOfKinds() {
        WingPort x = new WingPort();
        int[] ways = {27, 35, 24, 57, 17, 67};
        int[] rolls = {2, 2, 2, 3, 2, 3};
        int[] ice = {6, 6, 6, 12, 6, 12};
        for (int kind = 0; kind < 6; kind++) {
            x.visit(kind, 1000, 1001, 9);
            CHECK.due("expects of kind " + kind, x.expects(kind, 0), 1000 + rolls[kind] + 4 + ways[kind]);
        }
        x.set(6, 1);
        for (int kind = 0; kind < 6; kind++) {
            CHECK.due("cold: of kind " + kind, x.expects(kind, 0), 1000 + rolls[kind] + 4 + ways[kind] + ice[kind]);
        }
    }

    /** The longest way is that through all its ACTS, whatever is DONE; ICE just if it is COLD now. */
    private static void expectsWhateverIsDone() {
        WingPort x = Ports.with(1, 1);
        x.set(6, 1);
        x.visit(0, 0, 20, 999);
        for (int tick = 0; tick < 60; tick++) {
            CHECK.due("cold at " + tick, x.expects(0, tick), 39);
            x.set(6, 0);
            CHECK.due("not cold at " + tick, x.expects(0, 0), 33);
            x.set(6, 1);
            x.run(1);
        }
        CHECK.due("it is gone", x.visitTold(0, 1), 7);
    }

    private static void misses() {
        WingPort x = new WingPort();
        x.visit(1, 10, 200, 99);
        x.visit(0, 10, 100, 99);
        x.visit(2, 20, 100, 99);
        x.feed(0, 1, 5, 69);
        x.feed(2, 1, 7, 63);
        x.feed(1, 0, 50, 99);
        CHECK.due("misses(3, 0)", x.misses(3, 0), WingPort.NONE);
        CHECK.due("misses(-1, 1)", x.misses(-1, 1), WingPort.NONE);
        CHECK.due("misses(1, 1)", x.misses(1, 1), WingPort.BAD);
        CHECK.due("misses(1, -1)", x.misses(1, -1), WingPort.BAD);
        // etd less 3 is 97: 10 + 6 + 12 + 69 is 97, 20 + 6 + 8 + 63 is 97
        CHECK.due("all just come", x.misses(1, 0), 0);
        x.estimate(0, 11);
        CHECK.due("a JET a tick later", x.misses(1, 0), 5);
        x.run(1);
        x.estimate(2, 21);
        CHECK.due("the PROP is not told yet", x.misses(1, 0), 5);
        CHECK.due("all are missed", x.misses(1, 1), 12);
        CHECK.due("to another one", x.misses(0, 1), 0);
        CHECK.due("to none", x.misses(2, 1), 0);
    }

    private static void missesByTheLoad() {
        WingPort x = new WingPort();
        x.visit(1, 10, 200, 99);
        x.visit(0, 100, 101, 99);
        x.feed(0, 1, 5, 99);
        x.set(6, 1);
        // its own LOAD ends at 100 + 6 + 24: the bags of a JET with eta e come at e + 6 + 12 + 99
        x.estimate(0, 13);
        CHECK.due("at the end of LOAD", x.misses(1, 0), 0);
        x.estimate(0, 14);
        CHECK.due("behind the end of LOAD", x.misses(1, 0), 5);
        x.estimate(1, 101);
        CHECK.due("it is thought to come later itself", x.misses(1, 0), 0);
        x.run(200);
        CHECK.due("whatever became of the feed", x.misses(1, 200), 0);
        x.estimate(1, 5);
        CHECK.due("whatever became of it", x.misses(1, 200), 5);
    }

    /** THERE and the longest way, to the end of UNLOAD and to the end of LOAD, of each kind. */
    private static void missesOfKinds() {
        int[] rolls = {2, 2, 2, 3, 2, 3};
        int[] unloaded = {8, 12, 8, 22, 5, 22};
        int[] loaded = {24, 32, 21, 54, 14, 64};
        for (int from = 0; from < 6; from++) {
            for (int to = 0; to < 6; to++) {
                WingPort x = new WingPort();
                int one = (from + to) % 3;
                int other = (one + 1 + to % 2) % 3;
                for (int v = 0; v < 3; v++) {
                    x.visit(v == one ? from : v == other ? to : 0, v == other ? 100 : 5, 101, 99);
                }
                x.feed(one, other, 9, 20);
                int eta = 100 + rolls[to] + loaded[to] - rolls[from] - unloaded[from] - 20;
                x.estimate(one, eta);
                CHECK.due("from kind " + from + " to " + to + ": just there", x.misses(other, 0), 0);
                x.estimate(one, eta + 1);
                CHECK.due("from kind " + from + " to " + to + ": a tick too late", x.misses(other, 0), 9);
                CHECK.due("none to the other", x.misses(one, 0), 0);
            }
        }
    }

    /** Of both visits what was told by then counts. */
    private static void missesAsThoughtThen() {
        WingPort x = new WingPort();
        x.visit(1, 14, 200, 99);
        x.visit(0, 100, 101, 99);
        x.feed(0, 1, 5, 99);
        CHECK.due("behind the end of LOAD", x.misses(1, 0), 5);
        x.run(1);
        x.estimate(1, 101);
        CHECK.due("it comes later itself", x.misses(1, 1), 0);
        CHECK.due("that was not told then", x.misses(1, 0), 5);
        x.run(1);
        x.estimate(0, 15);
        CHECK.due("both come later", x.misses(1, 2), 5);
        CHECK.due("by what was told ahead of that", x.misses(1, 1), 0);
        CHECK.due("by nothing", x.misses(1, 0), 5);
    }

    /** There may be more FEEDS than VISITS. */
    private static void missesOfManyFeeds() {
        WingPort x = new WingPort();
        x.visit(0, 50, 51, 99);
        x.visit(0, 10, 11, 99);
        int bags = 0;
        for (int f = 0; f < 16; f++) {
            x.feed(0, 1, f + 1, 90);
            bags += f + 1;
            CHECK.due("misses of " + (f + 1), x.misses(1, 0), bags);
            CHECK.due("none to the other", x.misses(0, 0), 0);
        }
    }
}
