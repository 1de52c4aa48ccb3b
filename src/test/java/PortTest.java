/** Promises 1 to 7 and 9 to 16: what the port is made of, and what is told of it. */
public final class PortTest {
    private static final Check CHECK = new Check("port");

    public static void main(String[] args) {
        newObject();
        stands();
        settings();
        settingsBelowBusy();
        settingsWhileBusy();
        visits();
        late();
        wishes();
        wishesOfSix();
        wishesBySizes();
        feeds();
        visitTold();
        causes();
        feedTold();
        standTold();
        runwayTold();
        kinds();
        trucks();
        trucksBySorts();
        constants();
        objectsApart();
        CHECK.end();
    }

    private static void newObject() {
        WingPort x = new WingPort();
        int[] counts = {0, 0, 0, 0, 1, 0, 0, 0, 0, 0, 0, 0, 0, 1};
        for (int what = 0; what < counts.length; what++) {
            CHECK.due("new: count(" + what + ")", x.count(what), counts[what]);
        }
        for (int sort = 0; sort < 5; sort++) {
            CHECK.due("new: trucks(" + sort + ", 0)", x.trucks(sort, 0), 0);
            CHECK.due("new: trucks(" + sort + ", 1)", x.trucks(sort, 1), 0);
        }
        CHECK.due("new: standTold(0, 0)", x.standTold(0, 0), WingPort.STATE);
        CHECK.due("new: visitTold(0, 0)", x.visitTold(0, 0), WingPort.NONE);
        CHECK.due("new: feedTold(0, 0)", x.feedTold(0, 0), WingPort.NONE);
        CHECK.due("new: runwayTold(0, 0)", x.runwayTold(0, 0), 0);
        CHECK.due("new: runwayTold(0, 1)", x.runwayTold(0, 1), -1);
        CHECK.due("new: run(200)", x.run(200), 200);
    }

    private static void stands() {
        WingPort x = new WingPort();
        CHECK.due("stand(0)", x.stand(0), WingPort.BAD);
        CHECK.due("stand(4)", x.stand(4), WingPort.BAD);
        CHECK.due("stand(-1)", x.stand(-1), WingPort.BAD);
        int[] sizes = {1, 2, 3, 3, 2, 1};
        for (int s = 0; s < 6; s++) {
            CHECK.due("stand(" + sizes[s] + ")", x.stand(sizes[s]), s);
            CHECK.due("its size", x.standTold(s, 0), sizes[s]);
            CHECK.due("who has it", x.standTold(s, 1), -1);
        }
        CHECK.due("the seventh stand", x.stand(1), WingPort.FULL);
        CHECK.due("a seventh stand of no size", x.stand(4), WingPort.BAD);
        CHECK.due("count(2)", x.count(2), 6);
    }

    private static void settings() {
        WingPort x = new WingPort();
        int[] first = {0, 0, 0, 0, 0, 0, 0, 0, 1};
        int[] least = {0, 0, 0, 0, 0, 0, 0, 0, 1};
        int[] most = {9, 9, 9, 9, 9, 1, 1, 9, 2};
        for (int what = 0; what < 9; what++) {
            CHECK.due("set " + what + " to its most", x.set(what, most[what]), first[what]);
            CHECK.due("set " + what + " above", x.set(what, most[what] + 1), WingPort.BAD);
            CHECK.due("set " + what + " below", x.set(what, least[what] - 1), WingPort.BAD);
            CHECK.due("set " + what + " to its least", x.set(what, least[what]), most[what]);
            CHECK.due("set " + what + " as it is", x.set(what, least[what]), least[what]);
        }
        CHECK.due("set(9, 0)", x.set(9, 0), WingPort.BAD);
        CHECK.due("set(-1, 0)", x.set(-1, 0), WingPort.BAD);
        x.set(7, 5);
        x.set(5, 1);
        x.set(6, 1);
        x.set(8, 2);
        CHECK.due("count(10)", x.count(10), 5);
        CHECK.due("count(11)", x.count(11), 1);
        CHECK.due("count(12)", x.count(12), 1);
        CHECK.due("count(13)", x.count(13), 2);
    }

    private static void settingsBelowBusy() {
        WingPort x = Ports.with(2, 1, 1);
        x.visit(0, 0, 100, 999);
        x.run(7);
        CHECK.due("one busy", x.trucks(0, 1), 1);
        CHECK.due("fewer than busy", x.set(0, 0), WingPort.STATE);
        CHECK.due("still so many", x.trucks(0, 0), 2);
        CHECK.due("as many as busy", x.set(0, 1), 2);
        CHECK.due("not a number of trucks, though busy", x.set(0, -1), WingPort.BAD);
        x.run(2);
        CHECK.due("none busy", x.set(0, 0), 1);
    }

    /** STATE is for TRUCKS alone: all else may be set, whatever is BUSY. */
    private static void settingsWhileBusy() {
        WingPort x = Ports.with(9, 1, 1, 1);
        x.set(5, 1);
        x.set(7, 9);
        x.set(8, 2);
        for (int v = 0; v < 3; v++) {
            x.visit(0, 0, 40, 999);
        }
        int[] first = {1, 0, 9, 2};
        for (int tick = 0; tick < 60; tick++) {
            for (int what = 5; what < 9; what++) {
                int least = what == 8 ? 1 : 0;
                CHECK.due("set " + what + " at " + tick, x.set(what, least), first[what - 5]);
                CHECK.due("set " + what + " back at " + tick, x.set(what, first[what - 5]), least);
            }
            x.run(1);
        }
    }

    private static void visits() {
        WingPort x = new WingPort();
        x.run(10);
        CHECK.due("the first at TICK 0", new WingPort().visit(0, 0, 1, 1), 0);
        CHECK.due("kind 6", x.visit(6, 10, 11, 1), WingPort.BAD);
        CHECK.due("kind -1", x.visit(-1, 10, 11, 1), WingPort.BAD);
        CHECK.due("eta below TICK", x.visit(0, 9, 11, 1), WingPort.BAD);
        CHECK.due("eta 10000", x.visit(0, 10000, 10001, 1), WingPort.BAD);
        CHECK.due("etd at eta", x.visit(0, 10, 10, 1), WingPort.BAD);
        CHECK.due("etd 10000", x.visit(0, 10, 10000, 1), WingPort.BAD);
        CHECK.due("crew 0", x.visit(0, 10, 11, 0), WingPort.BAD);
        CHECK.due("crew 1000", x.visit(0, 10, 11, 1000), WingPort.BAD);
        CHECK.due("eta 9999", x.visit(0, 9999, 9999, 1), WingPort.BAD);
        CHECK.due("the least", x.visit(0, 10, 11, 1), 0);
        CHECK.due("the most", x.visit(5, 9998, 9999, 999), 1);
        CHECK.due("the least limit", x.visitTold(0, 10), 11);
        CHECK.due("the most limit", x.visitTold(1, 10), 9998 + 999);
        for (int v = 2; v < 12; v++) {
            CHECK.due("visit " + v, x.visit(v % 6, 20, 30, 40), v);
        }
        CHECK.due("the thirteenth", x.visit(0, 20, 30, 40), WingPort.FULL);
        CHECK.due("a bad thirteenth", x.visit(6, 20, 30, 40), WingPort.BAD);
        CHECK.due("count(1)", x.count(1), 12);
    }

    private static void late() {
        WingPort x = Ports.with(1, 1);
        x.visit(0, 5, 50, 10);
        CHECK.due("late(1, 0)", x.late(1, 0), WingPort.NONE);
        CHECK.due("late(-1, -1)", x.late(-1, -1), WingPort.NONE);
        CHECK.due("late(0, -1)", x.late(0, -1), WingPort.BAD);
        CHECK.due("late(0, 1000)", x.late(0, 1000), WingPort.BAD);
        CHECK.due("late(0, 999)", x.late(0, 999), 0);
        CHECK.due("comes", x.visitTold(0, 4), 1004);
        CHECK.due("limit", x.visitTold(0, 10), 1014);
        CHECK.due("late(0, 0)", x.late(0, 0), 999);
        CHECK.due("comes at its eta", x.visitTold(0, 4), 5);
        CHECK.due("late(0, 2)", x.late(0, 2), 0);
        x.run(7);
        CHECK.due("still due", x.visitTold(0, 1), 0);
        CHECK.due("late while due", x.late(0, 2), 2);
        x.run(1);
        CHECK.due("lands as it comes", x.visitTold(0, 1), 2);
        CHECK.due("late no more", x.late(0, 0), WingPort.STATE);
        CHECK.due("a bad late no more", x.late(0, 1000), WingPort.BAD);
        x.visit(0, 20, 50, 10);
        x.late(1, 30);
        Ports.runTill(x, 30);
        x.late(1, 0);
        x.run(1);
        CHECK.due("comes at once if it should have come", x.visitTold(1, 2), 30);
    }

    private static void wishes() {
        WingPort small = Ports.with(1, 1);
        small.visit(0, 5, 50, 10);
        CHECK.due("stand 0", small.wish(0, 0), 6);
        CHECK.due("was stand 0", small.wish(0, -1), 0);
        WingPort x = Ports.with(1, 1, 2, 3);
        x.visit(1, 5, 50, 10);
        CHECK.due("wish(1, 0)", x.wish(1, 0), WingPort.NONE);
        CHECK.due("wish(0, 3)", x.wish(0, 3), WingPort.NONE);
        CHECK.due("wish(0, -2)", x.wish(0, -2), WingPort.NONE);
        CHECK.due("too small", x.wish(0, 0), WingPort.BAD);
        CHECK.due("of its size", x.wish(0, 1), 6);
        CHECK.due("larger", x.wish(0, 2), 1);
        CHECK.due("told", x.visitTold(0, 9), 2);
        CHECK.due("none", x.wish(0, -1), 2);
        CHECK.due("told none", x.visitTold(0, 9), -1);
        CHECK.due("again", x.wish(0, 2), 6);
        x.run(6);
        CHECK.due("it has its wish", x.visitTold(0, 3), 2);
        CHECK.due("no wish while it lands", x.wish(0, 1), WingPort.STATE);
        CHECK.due("too small while it lands", x.wish(0, 0), WingPort.BAD);
        CHECK.due("no such stand while it lands", x.wish(0, 3), WingPort.NONE);
        x.visit(3, 6, 50, 10);
        x.run(1);
        CHECK.due("holds, its stand isn't free", x.visitTold(1, 1), 1);
        CHECK.due("a wish while it holds", x.wish(1, 2), 6);
    }

    /** What it was; 6: none. */
    private static void wishesOfSix() {
        WingPort x = Ports.with(1, 1, 1, 1, 1, 1, 1);
        x.visit(4, 5, 50, 10);
        int was = 6;
        for (int s = 5; s >= -1; s--) {
            CHECK.due("wish " + s, x.wish(0, s), was);
            CHECK.due("wished " + s, x.visitTold(0, 9), s);
            was = s < 0 ? 6 : s;
        }
        CHECK.due("none again", x.wish(0, -1), 6);
        CHECK.due("a seventh", x.wish(0, 6), WingPort.NONE);
    }

    /** A WISH needs a stand of its SIZE at least. */
    private static void wishesBySizes() {
        int[] sizes = {1, 2, 1, 3, 1, 3};
        for (int kind = 0; kind < 6; kind++) {
            WingPort x = Ports.with(1, 3, 1, 2);
            x.visit(kind, 5, 50, 10);
            int[] of = {3, 1, 2};
            int was = 6;
            for (int s = 0; s < 3; s++) {
                boolean fits = of[s] >= sizes[kind];
                CHECK.due("kind " + kind + " on a stand of " + of[s], x.wish(0, s), fits ? was : WingPort.BAD);
                was = fits ? s : was;
                CHECK.due("wish of kind " + kind, x.visitTold(0, 9), was);
            }
        }
    }

    private static void feeds() {
        WingPort x = Ports.with(1, 1);
        x.visit(0, 5, 50, 10);
        x.visit(0, 5, 50, 10);
        x.visit(0, 9, 50, 10);
        CHECK.due("to none", x.feed(0, 3, 1, 1), WingPort.NONE);
        CHECK.due("from none", x.feed(-1, 0, 1, 1), WingPort.NONE);
        CHECK.due("from none to itself", x.feed(3, 3, 0, 0), WingPort.NONE);
        CHECK.due("to itself", x.feed(1, 1, 1, 1), WingPort.BAD);
        CHECK.due("bags 0", x.feed(0, 1, 0, 1), WingPort.BAD);
        CHECK.due("bags 100", x.feed(0, 1, 100, 1), WingPort.BAD);
        CHECK.due("cart 0", x.feed(0, 1, 1, 0), WingPort.BAD);
        CHECK.due("cart 100", x.feed(0, 1, 1, 100), WingPort.BAD);
        CHECK.due("the least", x.feed(0, 1, 1, 1), 0);
        CHECK.due("the most", x.feed(1, 0, 99, 99), 1);
        x.run(6);
        CHECK.due("from one that landed", x.feed(0, 2, 1, 1), WingPort.STATE);
        CHECK.due("to one that holds", x.feed(2, 1, 1, 1), WingPort.STATE);
        CHECK.due("bad to one that holds", x.feed(2, 1, 1, 0), WingPort.BAD);
        x.visit(0, 60, 90, 10);
        for (int f = 2; f < 16; f++) {
            CHECK.due("feed " + f, x.feed(2, 3, 1, 1), f);
        }
        CHECK.due("the seventeenth", x.feed(2, 3, 1, 1), WingPort.FULL);
        CHECK.due("a seventeenth to one that holds", x.feed(2, 1, 1, 1), WingPort.STATE);
        CHECK.due("count(3)", x.count(3), 16);
    }

    private static void visitTold() {
        WingPort x = Ports.with(1, 1);
        x.run(3);
        x.visit(4, 5, 70, 10);
        x.late(0, 4);
        x.wish(0, 0);
        int[] due = {4, 0, 3, -1, 9, 70, 0, 0, 0, 0, 19};
        for (int what = 0; what < due.length; what++) {
            CHECK.due("due: visitTold(0, " + what + ")", x.visitTold(0, what), due[what]);
        }
        CHECK.due("visitTold(0, 11)", x.visitTold(0, 11), WingPort.BAD);
        CHECK.due("visitTold(0, -1)", x.visitTold(0, -1), WingPort.BAD);
        CHECK.due("visitTold(1, 0)", x.visitTold(1, 0), WingPort.NONE);
        CHECK.due("visitTold(-1, 11)", x.visitTold(-1, 11), WingPort.NONE);
        Ports.runTill(x, 16);
        int[] stands = {4, 4, 15, 0, 9, 70, 0, 0, 1, 0, 19};
        for (int what = 0; what < stands.length; what++) {
            CHECK.due("stands: visitTold(0, " + what + ")", x.visitTold(0, what), stands[what]);
        }
    }

    private static void causes() {
        WingPort x = new WingPort();
        x.visit(0, 5, 6, 10);
        x.late(0, 5);
        x.run(12);
        CHECK.due("arrival", x.cause(0, 0), 4);
        CHECK.due("stand", x.cause(0, 1), 2);
        CHECK.due("in all", x.visitTold(0, 7), 6);
        CHECK.due("cause(0, 8)", x.cause(0, 8), 0);
        CHECK.due("cause(0, 9)", x.cause(0, 9), WingPort.BAD);
        CHECK.due("cause(0, -1)", x.cause(0, -1), WingPort.BAD);
        CHECK.due("cause(1, 0)", x.cause(1, 0), WingPort.NONE);
        CHECK.due("cause(-1, 9)", x.cause(-1, 9), WingPort.NONE);
    }

    private static void feedTold() {
        WingPort x = Ports.with(2, 1, 1);
        x.visit(0, 0, 90, 99);
        x.visit(0, 50, 90, 99);
        x.feed(0, 1, 7, 20);
        int[] due = {0, 1, 7, 0, -1};
        for (int what = 0; what < due.length; what++) {
            CHECK.due("feedTold(0, " + what + ")", x.feedTold(0, what), due[what]);
        }
        CHECK.due("feedTold(0, 5)", x.feedTold(0, 5), WingPort.BAD);
        CHECK.due("feedTold(0, -1)", x.feedTold(0, -1), WingPort.BAD);
        CHECK.due("feedTold(1, 0)", x.feedTold(1, 0), WingPort.NONE);
        CHECK.due("feedTold(-1, 5)", x.feedTold(-1, 5), WingPort.NONE);
        Ports.runTill(x, 14);
        CHECK.due("in the plane", x.feedTold(0, 3), 0);
        x.run(1);
        CHECK.due("on the cart", x.feedTold(0, 3), 1);
        CHECK.due("comes", x.feedTold(0, 4), 34);
        x.visit(0, 60, 90, 99);
        x.visit(0, 60, 90, 99);
        x.feed(3, 2, 8, 30);
        x.feed(1, 3, 9, 40);
        int[][] others = {{3, 2, 8, 0, -1}, {1, 3, 9, 0, -1}};
        for (int f = 1; f < 3; f++) {
            for (int what = 0; what < 5; what++) {
                CHECK.due("feedTold(" + f + ", " + what + ")", x.feedTold(f, what), others[f - 1][what]);
            }
        }
        Ports.runTill(x, 34);
        CHECK.due("still on the cart", x.feedTold(0, 3), 1);
        x.run(1);
        CHECK.due("there", x.feedTold(0, 3), 2);
        CHECK.due("came", x.feedTold(0, 4), 34);
    }

    private static void standTold() {
        WingPort x = Ports.with(1, 2, 1);
        x.visit(0, 0, 60, 99);
        CHECK.due("standTold(2, 0)", x.standTold(2, 0), WingPort.STATE);
        CHECK.due("standTold(-1, 2)", x.standTold(-1, 2), WingPort.STATE);
        CHECK.due("standTold(0, 2)", x.standTold(0, 2), WingPort.BAD);
        CHECK.due("standTold(0, -1)", x.standTold(0, -1), WingPort.BAD);
        CHECK.due("standTold(0, 0)", x.standTold(0, 0), 2);
        x.run(1);
        CHECK.due("the least that fits is taken", x.standTold(1, 1), 0);
        CHECK.due("the other is free", x.standTold(0, 1), -1);
        Ports.runTill(x, 60);
        CHECK.due("till it is pushed", x.standTold(1, 1), 0);
        x.run(1);
        CHECK.due("free", x.standTold(1, 1), -1);
    }

    private static void runwayTold() {
        WingPort x = Ports.with(1, 3, 3);
        x.set(8, 2);
        x.visit(3, 4, 60, 99);
        x.visit(1, 4, 60, 99);
        CHECK.due("runwayTold(2, 0)", x.runwayTold(2, 0), WingPort.STATE);
        CHECK.due("runwayTold(-1, 2)", x.runwayTold(-1, 2), WingPort.STATE);
        CHECK.due("runwayTold(1, 2)", x.runwayTold(1, 2), WingPort.BAD);
        CHECK.due("runwayTold(0, -1)", x.runwayTold(0, -1), WingPort.BAD);
        CHECK.due("ends at first", x.runwayTold(1, 0), 0);
        CHECK.due("prev at first", x.runwayTold(1, 1), -1);
        x.run(5);
        CHECK.due("ends with a WIDE", x.runwayTold(0, 0), 7);
        CHECK.due("prev is a WIDE", x.runwayTold(0, 1), 3);
        CHECK.due("ends with a JET", x.runwayTold(1, 0), 6);
        CHECK.due("prev is a JET", x.runwayTold(1, 1), 1);
        x.set(8, 1);
        CHECK.due("of the numbers 0 and 1, though one is shut", x.runwayTold(1, 0), 6);
    }

    private static void kinds() {
        WingPort x = new WingPort();
        int[][] ticks = {{2, 6, 4, 5, 4, 8, 6, 3}, {2, 10, 4, 8, 4, 12, 6, 3}, {2, 6, 2, 5, 0, 8, 6, 3},
            {2, 20, 4, 8, 4, 24, 12, 3}, {2, 3, 2, 5, 0, 4, 6, 3}, {2, 20, 0, 8, 0, 34, 12, 3}};
        int[][] told = {{1, 2}, {2, 2}, {1, 2}, {3, 3}, {1, 2}, {3, 3}};
        for (int kind = 0; kind < 6; kind++) {
            for (int act = 0; act < 8; act++) {
                CHECK.due("ticks(" + kind + ", " + act + ")", x.ticks(kind, act), ticks[kind][act]);
            }
            for (int what = 0; what < 2; what++) {
                CHECK.due("kindTold(" + kind + ", " + what + ")", x.kindTold(kind, what), told[kind][what]);
            }
        }
        CHECK.due("ticks(6, 0)", x.ticks(6, 0), WingPort.BAD);
        CHECK.due("ticks(-1, 0)", x.ticks(-1, 0), WingPort.BAD);
        CHECK.due("ticks(0, 8)", x.ticks(0, 8), WingPort.BAD);
        CHECK.due("ticks(1, -1)", x.ticks(1, -1), WingPort.BAD);
        CHECK.due("kindTold(6, 0)", x.kindTold(6, 0), WingPort.BAD);
        CHECK.due("kindTold(-1, 1)", x.kindTold(-1, 1), WingPort.BAD);
        CHECK.due("kindTold(0, 2)", x.kindTold(0, 2), WingPort.BAD);
        CHECK.due("kindTold(0, -1)", x.kindTold(0, -1), WingPort.BAD);
    }

    private static void trucks() {
        WingPort x = Ports.with(3, 1);
        CHECK.due("trucks(5, 0)", x.trucks(5, 0), WingPort.STATE);
        CHECK.due("trucks(-1, 2)", x.trucks(-1, 2), WingPort.STATE);
        CHECK.due("trucks(0, 2)", x.trucks(0, 2), WingPort.BAD);
        CHECK.due("trucks(0, -1)", x.trucks(0, -1), WingPort.BAD);
        x.set(6, 1);
        x.visit(0, 0, 60, 99);
        int[][] busyFrom = {{6, 0, 8}, {14, 1, 19}, {18, 2, 22}, {30, 4, 36}, {57, 3, 60}};
        for (int[] row : busyFrom) {
            Ports.runTill(x, row[0]);
            CHECK.due("sort " + row[1] + " before " + row[0], x.trucks(row[1], 1), 0);
            x.run(1);
            CHECK.due("sort " + row[1] + " from " + row[0], x.trucks(row[1], 1), 1);
            CHECK.due("how many of sort " + row[1], x.trucks(row[1], 0), 3);
            if (row[1] != 1) {
                Ports.runTill(x, row[2]);
                CHECK.due("sort " + row[1] + " till " + row[2], x.trucks(row[1], 1), 1);
                x.run(1);
                CHECK.due("sort " + row[1] + " behind " + row[2], x.trucks(row[1], 1), 0);
            }
        }
    }

    private static void trucksBySorts() {
        WingPort x = new WingPort();
        for (int sort = 0; sort < 5; sort++) {
            x.set(sort, sort + 2);
        }
        for (int sort = 0; sort < 5; sort++) {
            CHECK.due("how many of sort " + sort, x.trucks(sort, 0), sort + 2);
            CHECK.due("BUSY of sort " + sort, x.trucks(sort, 1), 0);
        }
    }

    private static void constants() {
        CHECK.due("NONE", WingPort.NONE, -1);
        CHECK.due("BAD", WingPort.BAD, -2);
        CHECK.due("STATE", WingPort.STATE, -3);
        CHECK.due("FULL", WingPort.FULL, -4);
        CHECK.due("NO", WingPort.NO, -4611686018427387904L);
    }

    /** What is told to one object isn't told to another. */
    private static void objectsApart() {
        WingPort x = Ports.with(3, 1, 2);
        WingPort y = new WingPort();
        x.set(5, 1);
        x.visit(0, 0, 60, 99);
        x.visit(0, 0, 60, 99);
        x.feed(0, 1, 5, 5);
        x.estimate(0, 9);
        Ports.rule(x, "prio 1;sep 2;hold 3;");
        Ports.tape(x, "prio");
        x.sheet(0, 0, 5);
        x.plan(1, 9);
        x.run(9);
        CHECK.holds("a new object beside a used one", Ports.picture(y).equals(Ports.picture(new WingPort())));
        CHECK.due("a sheet of its own", y.cell(0, 0, 1), -11);
        CHECK.due("a stand of its own", y.stand(3), 0);
        CHECK.due("a visit of its own", y.visit(3, 0, 90, 9), 0);
        CHECK.due("rules of its own", y.tells(0, 1), 2);
        CHECK.due("a tape of its own", y.text(), -100);
        CHECK.due("the other's stands", x.standTold(0, 0), 1);
        CHECK.due("the other's ticks", x.count(0), 9);
    }
}
