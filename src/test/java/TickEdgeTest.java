/** Promise 8 again: the sentences on a tick that name an edge, each with the ticks just ahead and at it. */
public final class TickEdgeTest {
    private static final Check CHECK = new Check("tick edge");
    private static final int ARRIVAL = 0, STAND = 1, WORK = 2, WANT = 3, BAGS = 4, RUNWAY = 5, FOG = 6, CREW = 7,
        ICE = 8;
    private static final int DUE = 0, HOLDS = 1, LANDS = 2, ROLLS = 3, STANDS = 4, WAITS = 5, LEAVES = 6, GONE = 7,
        WENT = 8;
    private static final String APART_BY_NOTHING = "prio 0; sep 0; hold 0;";
    /** The largest int, as a text can say it. */
    private static final String LARGEST = "9999*9999*21+9999*4790+8416";

    public static void main(String[] args) {
        holdsFor60();
        holdsSinceItHolds();
        rollsByKind();
        wishesPlayedThrough();
        standsAreFreeAgain();
        lateBehindTheLastTick();
        freedTruckGoesToTheLeast();
        trucksOfActs();
        oneTruckForTwo();
        actsWithoutTrucks();
        carts();
        cartsOfOneVisit();
        cartsOfManyFeeds();
        feedsOfOneThatWent();
        missedStaysMissed();
        cartToOneThatIsGone();
        bagsInThePlaneAreWaitedFor();
        bagsThatGoAway();
        heldByItsOwnHold();
        sparesByNumbers();
        crewsByATick();
        crewsForThePushAlone();
        icerByActFirst();
        icedByOneIcer();
        noIcerByATick();
        icedAgainByNumber();
        icedWhileNotColdAnyMore();
        standIsFreeInTheTick();
        oneStandForTwo();
        noStandForOne();
        runwaysByNumbers();
        sepOfTheLargest();
        prioOfTheLeast();
        prioByRunway();
        apartFromNone();
        apartByRunway();
        prevThatLeaves();
        prioBehindTheFeeds();
        fogOfOneThatWaits();
        fogThatComesAndGoes();
        workAheadOfWant();
        lateFromEtdOn();
        lateNoMore();
        lastTick();
        CHECK.end();
    }

    private static WingPort twoRunways(int trucks, int... sizes) {
        WingPort x = Ports.with(trucks, sizes);
        x.set(8, 2);
        Ports.rule(x, APART_BY_NOTHING);
        return x;
    }

    /** HOLDS for 60 ticks: WENT, and that comes ahead of the runways. */
    private static void holdsFor60() {
        WingPort x = Ports.with(1, 2);
        x.visit(3, 0, 300, 99);
        x.visit(3, 7, 300, 99);
        Ports.runTill(x, 59);
        x.stand(3);
        x.run(1);
        CHECK.tells("lands in the last tick", x, 0, LANDS, 59);
        Ports.runTill(x, 67);
        CHECK.tells("holds for 59 ticks", x, 1, HOLDS, 7);
        x.run(1);
        CHECK.tells("holds for 60 ticks", x, 1, WENT, 67);
        WingPort y = Ports.with(1, 2);
        y.visit(3, 0, 300, 99);
        Ports.runTill(y, 60);
        y.stand(3);
        y.run(1);
        CHECK.tells("a stand a tick too late", y, 0, WENT, 60);
        CHECK.due("it takes no stand", y.standTold(1, 1), -1);
        CHECK.due("nor the runway", y.runwayTold(0, 1), -1);
    }

    /** How long it is in its STATE is t less SINCE, whenever it should have come. */
    private static void holdsSinceItHolds() {
        WingPort x = new WingPort();
        x.visit(0, 0, 300, 99);
        x.late(0, 30);
        Ports.runTill(x, 30);
        x.late(0, 5);
        x.run(1);
        CHECK.tells("it should have come at 5", x, 0, HOLDS, 30);
        CHECK.due("it comes at", x.visitTold(0, 4), 5);
        Ports.runTill(x, 40);
        CHECK.due("wait", x.tells(0, 0), 110);
        Ports.runTill(x, 90);
        CHECK.tells("holds for 59 ticks", x, 0, HOLDS, 30);
        x.run(1);
        CHECK.tells("holds for 60 ticks", x, 0, WENT, 90);
    }

    /** A visit is served alike, whichever stand it wished. */
    private static void wishesPlayedThrough() {
        for (int s = -1; s < 3; s++) {
            WingPort x = Ports.with(1, 1, 2, 3);
            x.visit(0, 0, 60, 999);
            x.wish(0, s);
            Ports.runTill(x, 30);
            CHECK.due("its stand by wish " + s, x.visitTold(0, 3), Math.max(0, s));
            CHECK.due("it is loaded by wish " + s, x.visitTold(0, 8), 32);
            Ports.runTill(x, 67);
            CHECK.tells("gone by wish " + s, x, 0, GONE, 66);
            CHECK.due("its wish is told still", x.visitTold(0, 9), s);
        }
    }

    /** PUSH: its STAND is free: whatever kind it is of, whatever it is late, whichever stand that is. */
    private static void standsAreFreeAgain() {
        for (int kind = 0; kind < 6; kind++) {
            for (int late : new int[] {0, 1, 7}) {
                for (int s = 0; s < 2; s++) {
                    String what = "kind " + kind + ", late " + late + ", stand " + s;
                    WingPort x = Ports.with(1, 3, 3);
                    x.visit(kind, 0, 200, 999);
                    x.late(0, late);
                    x.wish(0, s);
                    Ports.runTill(x, 200);
                    CHECK.due(what + ": has it", x.standTold(s, 1), 0);
                    CHECK.due(what + ": the other is free", x.standTold(1 - s, 1), -1);
                    x.run(1);
                    CHECK.due(what + ": is free", x.standTold(s, 1), -1);
                    CHECK.due(what + ": told", x.visitTold(0, 3), -1);
                }
            }
        }
    }

    /** LANDS for ROLL: ROLLS. ROLLS for 4: STANDS. LEAVES for ROLL: GONE. */
    private static void rollsByKind() {
        int[] rolls = {2, 2, 2, 3, 2, 3};
        for (int kind = 0; kind < 6; kind++) {
            int roll = rolls[kind];
            String name = "kind " + kind;
            WingPort x = Ports.with(1, 3);
            x.visit(kind, 0, 200, 999);
            Ports.runTill(x, roll);
            CHECK.tells(name + " lands", x, 0, LANDS, 0);
            CHECK.due(name + " ends", x.runwayTold(0, 0), roll);
            x.run(1);
            CHECK.tells(name + " rolls", x, 0, ROLLS, roll);
            Ports.runTill(x, roll + 4);
            CHECK.tells(name + " rolls still", x, 0, ROLLS, roll);
            x.run(1);
            CHECK.tells(name + " stands", x, 0, STANDS, roll + 4);
            Ports.runTill(x, 204);
            CHECK.tells(name + " waits", x, 0, WAITS, 200);
            Ports.runTill(x, 204 + roll);
            CHECK.tells(name + " leaves", x, 0, LEAVES, 204);
            CHECK.due(name + " ends again", x.runwayTold(0, 0), 204 + roll);
            CHECK.due(name + " is PREV", x.runwayTold(0, 1), kind);
            x.run(1);
            CHECK.tells(name + " is gone", x, 0, GONE, 204 + roll);
        }
    }

    private static void lateBehindTheLastTick() {
        WingPort x = Ports.with(1, 1);
        Ports.runTill(x, 9800);
        x.visit(0, 9998, 9999, 999);
        x.visit(0, 9801, 9990, 1);
        CHECK.due("late by 999", x.late(0, 999), 0);
        x.late(1, 999);
        CHECK.due("comes behind 9999", x.visitTold(0, 4), 10997);
        CHECK.due("limit behind 9999", x.visitTold(0, 10), 11996);
        Ports.runTill(x, 9999);
        CHECK.tells("due for ever", x, 0, DUE, 9800);
        CHECK.causes("etd 9999 is never come", x, 0);
        CHECK.causes("etd 9990", x, 1, ARRIVAL, 9);
    }

    /** VISITS by numbers: whoever waits longer. */
    private static void freedTruckGoesToTheLeast() {
        WingPort x = twoRunways(1, 1, 1, 1);
        x.visit(0, 2, 100, 999);
        x.visit(0, 0, 100, 999);
        x.visit(0, 0, 100, 999);
        Ports.runTill(x, 8);
        CHECK.due("the lesser of two", x.visitTold(1, 8), 1);
        CHECK.due("the other waits", x.visitTold(2, 8), 0);
        x.run(1);
        CHECK.due("one that has just come, by its number", x.visitTold(0, 8), 1);
        CHECK.due("the other waits still", x.visitTold(2, 8), 0);
        CHECK.due("one is BUSY", x.trucks(0, 1), 1);
        Ports.runTill(x, 11);
        CHECK.due("then the other", x.visitTold(2, 8), 1);
        x.set(0, 2);
        CHECK.due("as many as are BUSY", x.set(0, 1), 2);
        CHECK.due("fewer", x.set(0, 0), WingPort.STATE);
    }

    /** STAIRS, FUEL, FOOD need one of theirs, PUSH a TUG, ICE an ICER; others none. */
    private static void trucksOfActs() {
        int[] done = {0, 1 + 2 + 4 + 16, 1 + 2 + 4 + 8, 127, 63};
        int[] bit = {1, 8, 16, 128, 64};
        for (int sort = 0; sort < 5; sort++) {
            String what = "no truck of sort " + sort;
            WingPort x = Ports.with(1, 1);
            x.set(6, 1);
            x.set(sort, 0);
            x.visit(0, 0, 60, 999);
            Ports.runTill(x, 61);
            CHECK.due(what + ": done", x.visitTold(0, 6), done[sort]);
            CHECK.due(what + ": under way", x.visitTold(0, 8), 0);
            CHECK.causes(what, x, 0, WANT, 1);
            x.set(sort, 1);
            x.run(1);
            CHECK.due("one of sort " + sort, x.visitTold(0, 8), bit[sort]);
            CHECK.due("it is BUSY", x.trucks(sort, 1), 1);
            CHECK.due("it can't be taken away", x.set(sort, 0), WingPort.STATE);
            CHECK.causes("one of sort " + sort, x, 0, WANT, 1, WORK, 1);
        }
    }

    /** WANT: no TRUCK of its sort that isn't BUSY, whatever is BUSY of other sorts. */
    private static void oneTruckForTwo() {
        int[] act = {0, 3, 4, 7, 6};
        int[] begins = {6, 14, 18, 36, 30};
        int[] lasts = {2, 5, 4, 3, 6};
        for (int sort = 0; sort < 5; sort++) {
            WingPort x = twoRunways(2, 1, 1);
            x.set(6, 1);
            x.set(sort, 1);
            x.visit(0, 0, 20, 999);
            x.visit(0, 0, 20, 999);
            for (int tick = begins[sort]; tick < begins[sort] + 2 * lasts[sort]; tick++) {
                String what = "sort " + sort + " at " + tick + ": visit ";
                boolean first = tick < begins[sort] + lasts[sort];
                Ports.runTill(x, tick + 1);
                CHECK.due(what + 0, x.visitTold(0, 8) >> act[sort] & 1, first ? 1 : 0);
                CHECK.due(what + 1, x.visitTold(1, 8) >> act[sort] & 1, first ? 0 : 1);
                CHECK.due(what + 1 + " is done", x.visitTold(1, 6) >> act[sort] & 1, 0);
                CHECK.due("BUSY of " + what, x.trucks(sort, 1), 1);
            }
            x.run(1);
            CHECK.due("sort " + sort + ": both are done", x.visitTold(1, 6) >> act[sort] & 1, 1);
            CHECK.due("sort " + sort + ": none is BUSY", x.trucks(sort, 1), 0);
        }
    }

    /** UNLOAD, CLEAN and LOAD begin while no truck of any sort is free. */
    private static void actsWithoutTrucks() {
        WingPort x = Ports.with(1, 1);
        x.visit(0, 0, 300, 999);
        Ports.runTill(x, 9);
        CHECK.due("UNLOAD", x.visitTold(0, 8), 2);
        noTrucks(x);
        Ports.runTill(x, 15);
        CHECK.due("CLEAN without a truck", x.visitTold(0, 8), 4);
        x.set(1, 1);
        x.set(2, 1);
        Ports.runTill(x, 21);
        CHECK.due("FOOD, the last ahead of LOAD", x.visitTold(0, 8), 16);
        for (int sort : new int[] {0, 1, 3, 4}) {
            x.set(sort, 0);
        }
        Ports.runTill(x, 23);
        CHECK.due("LOAD without another truck", x.visitTold(0, 8), 32);
        WingPort y = Ports.with(1, 1);
        y.visit(2, 0, 300, 999);
        Ports.runTill(y, 17);
        CHECK.due("FUEL, the last ahead of LOAD", y.visitTold(0, 8), 8);
        for (int sort : new int[] {0, 2, 3, 4}) {
            y.set(sort, 0);
        }
        Ports.runTill(y, 20);
        CHECK.due("LOAD without FOOD trucks", y.visitTold(0, 8), 32);
    }

    private static void noTrucks(WingPort x) {
        for (int sort = 0; sort < 5; sort++) {
            CHECK.due("none of sort " + sort, x.set(sort, 0), 1);
        }
    }

    /** As UNLOAD is DONE ..., and come at t and CART; one that comes at t or came: 2. */
    private static void carts() {
        int[] carts = {1, 2, 99};
        for (int cart : carts) {
            WingPort x = twoRunways(2, 1, 1);
            x.visit(0, 0, 300, 999);
            x.visit(0, 0, 300, 999);
            x.feed(0, 1, 5, cart);
            Ports.runTill(x, 14);
            CHECK.due("in the plane", x.feedTold(0, 3), 0);
            CHECK.due("not told yet", x.feedTold(0, 4), -1);
            x.run(1);
            CHECK.due("on the cart", x.feedTold(0, 3), 1);
            CHECK.due("comes by " + cart, x.feedTold(0, 4), 14 + cart);
            Ports.runTill(x, 14 + cart);
            CHECK.due("a tick ahead by " + cart, x.feedTold(0, 3), 1);
            x.run(1);
            CHECK.due("there by " + cart, x.feedTold(0, 3), 2);
        }
    }

    private static void cartsOfOneVisit() {
        WingPort x = twoRunways(3, 1, 1, 1);
        x.visit(0, 0, 300, 999);
        x.visit(0, 1, 300, 999);
        x.visit(0, 50, 300, 999);
        x.feed(0, 2, 5, 9);
        x.feed(1, 2, 6, 9);
        x.feed(0, 1, 7, 3);
        x.feed(2, 0, 8, 3);
        Ports.runTill(x, 15);
        int[] comes = {23, -1, 17, -1};
        for (int f = 0; f < 4; f++) {
            CHECK.due("FEED " + f + " comes", x.feedTold(f, 4), comes[f]);
        }
        x.run(1);
        CHECK.due("the other a tick later", x.feedTold(1, 4), 24);
        Ports.runTill(x, 25);
        CHECK.due("there, ahead of the plane", x.feedTold(0, 3) + x.feedTold(1, 3), 4);
    }

    /** There may be more FEEDS than VISITS: each goes on its cart, is waited for, and comes or is missed. */
    private static void cartsOfManyFeeds() {
        WingPort x = twoRunways(2, 1, 1);
        Ports.rule(x, "prio 0; sep 0; hold bags;");
        x.visit(0, 0, 300, 999);
        x.visit(0, 0, 20, 999);
        for (int f = 0; f < 16; f++) {
            x.feed(0, 1, f + 1, 21 + f);
        }
        CHECK.due("bags of 16 feeds", x.tells(1, 2), 16);
        Ports.runTill(x, 15);
        for (int f = 0; f < 16; f++) {
            CHECK.due("FEED " + f + " is on its cart", x.feedTold(f, 3), 1);
            CHECK.due("FEED " + f + " comes", x.feedTold(f, 4), 35 + f);
        }
        Ports.runTill(x, 36);
        CHECK.due("held for 16 and, from 35 on, for 15", x.visitTold(1, 8), 32);
        CHECK.causes("held", x, 1, WORK, 2 + 1, BAGS, 13);
        CHECK.due("none is missed yet", x.count(9), 0);
        Ports.runTill(x, 51);
        for (int f = 0; f < 16; f++) {
            CHECK.due("FEED " + f + " came", x.feedTold(f, 3), f < 8 ? 2 : 3);
        }
        CHECK.due("missed", x.count(9), 9 + 10 + 11 + 12 + 13 + 14 + 15 + 16);
    }

    /** If the other VISIT WENT, or one that is 0 is from one that WENT: 3. */
    private static void feedsOfOneThatWent() {
        WingPort x = Ports.with(1, 1);
        x.visit(0, 90, 300, 999);
        x.visit(1, 0, 300, 999);
        x.visit(0, 90, 300, 999);
        x.feed(0, 1, 5, 9);
        x.feed(1, 2, 6, 9);
        x.feed(0, 2, 7, 9);
        Ports.runTill(x, 60);
        CHECK.due("holds", x.feedTold(0, 3) + x.feedTold(1, 3), 0);
        x.run(1);
        CHECK.due("the other one WENT", x.feedTold(0, 3), 3);
        CHECK.due("from one that WENT", x.feedTold(1, 3), 3);
        CHECK.due("its cart is never told", x.feedTold(1, 4), -1);
        CHECK.due("of others", x.feedTold(2, 3), 0);
        CHECK.due("missed", x.count(9), 11);
    }

    /** FEEDS from it that are 0 are on their CARTS: one that is 3 is not. */
    private static void missedStaysMissed() {
        WingPort x = Ports.with(1, 1);
        x.visit(0, 55, 300, 999);
        x.visit(1, 0, 300, 999);
        x.visit(0, 200, 300, 999);
        x.feed(0, 1, 5, 9);
        x.feed(0, 2, 6, 9);
        Ports.runTill(x, 61);
        CHECK.due("missed", x.feedTold(0, 3), 3);
        Ports.runTill(x, 70);
        CHECK.due("UNLOAD is done", x.visitTold(0, 6) & 2, 2);
        CHECK.due("missed still", x.feedTold(0, 3), 3);
        CHECK.due("it comes never", x.feedTold(0, 4), -1);
        CHECK.due("the other is on its cart", x.feedTold(1, 3), 1);
        CHECK.due("it comes", x.feedTold(1, 4), 69 + 9);
    }

    private static void cartToOneThatIsGone() {
        WingPort x = twoRunways(2, 1, 1);
        x.visit(0, 0, 300, 999);
        x.visit(0, 0, 20, 999);
        x.feed(0, 1, 5, 99);
        Ports.runTill(x, 113);
        CHECK.due("gone", x.visitTold(1, 1), GONE);
        CHECK.due("on the cart for one that is gone", x.feedTold(0, 3), 1);
        CHECK.due("not missed yet", x.count(9), 0);
        x.run(1);
        CHECK.due("missed as it comes", x.feedTold(0, 3), 3);
    }

    /** BAGS: LOAD, as long as t is below ETD and what hold says, if FEEDS to it are 0 or 1. */
    private static void bagsInThePlaneAreWaitedFor() {
        int[] holds = {0, 1, 5};
        for (int hold : holds) {
            WingPort x = Ports.with(1, 1);
            Ports.rule(x, "prio 0; sep 0; hold " + hold + ";");
            x.visit(0, 200, 300, 999);
            x.visit(0, 0, 40, 999);
            x.feed(0, 1, 5, 9);
            Ports.runTill(x, 40 + hold);
            CHECK.due("held by " + hold, x.visitTold(1, 8), 0);
            CHECK.due("all is done but LOAD", x.visitTold(1, 6), 31);
            CHECK.causes("held by " + hold, x, 1, BAGS, hold);
            x.run(1);
            CHECK.due("no longer than " + hold, x.visitTold(1, 8), 32);
            CHECK.causes("loaded by " + hold, x, 1, BAGS, hold, WORK, 1);
        }
    }

    private static void bagsThatGoAway() {
        WingPort x = Ports.with(1, 1);
        x.visit(0, 200, 300, 999);
        x.visit(0, 0, 90, 999);
        x.feed(1, 0, 5, 9);
        Ports.runTill(x, 23);
        CHECK.due("bags from it aren't waited for", x.visitTold(1, 8), 32);
    }

    /** Below ETD and what hold says of it, whichever number it has. */
    private static void heldByItsOwnHold() {
        int[][] orders = {{2, 1, 3}, {1, 2, 3}, {1, 3, 2}, {3, 2, 1}};
        for (int[] kinds : orders) {
            WingPort x = Ports.with(9, 1, 3, 3);
            x.set(8, 2);
            Ports.rule(x, "prio 0; sep 0; hold kind * 5;");
            int prop = 0;
            int jet = 0;
            for (int v = 0; v < 3; v++) {
                prop = kinds[v] == 2 ? v : prop;
                jet = kinds[v] == 1 ? v : jet;
                x.visit(kinds[v], kinds[v] == 2 ? 0 : 90, kinds[v] == 2 ? 24 : 300, 999);
            }
            x.feed(jet, prop, 5, 99);
            Ports.runTill(x, 34);
            CHECK.due("held for 10, number " + prop, x.visitTold(prop, 8), 0);
            x.run(1);
            CHECK.due("and no longer, number " + prop, x.visitTold(prop, 8), 32);
            CHECK.causes("held", x, prop, BAGS, 10, WORK, 1);
        }
    }

    /** CREW: t is above LIMIT, and there is no SPARE crew: at LIMIT it begins, a tick later it doesn't. */
    private static void crewsByATick() {
        for (int crew = 28; crew < 32; crew++) {
            WingPort x = Ports.with(1, 1);
            x.visit(0, 0, 20, crew);
            Ports.runTill(x, 31);
            CHECK.due("PUSH at 30 by LIMIT " + crew, x.visitTold(0, 8), crew < 30 ? 0 : 128);
            CHECK.due("SPARE by LIMIT " + crew, x.count(10), 0);
            CHECK.causes("LIMIT " + crew, x, 0, WORK, crew < 30 ? 10 : 11, CREW, crew < 30 ? 1 : 0);
            WingPort y = Ports.with(1, 1);
            y.visit(0, 0, 20, crew - 7);
            y.late(0, 7);
            Ports.runTill(y, 38);
            CHECK.due("PUSH at 37 by LIMIT " + crew + ", late", y.visitTold(0, 8), 0);
            WingPort z = Ports.with(1, 1);
            z.visit(0, 0, 20, crew);
            z.late(0, 7);
            Ports.runTill(z, 38);
            CHECK.due("PUSH at 37 by LIMIT " + (crew + 7), z.visitTold(0, 8), crew < 30 ? 0 : 128);
        }
    }

    /** PUSH above LIMIT takes a SPARE crew. */
    private static void sparesByNumbers() {
        WingPort x = twoRunways(3, 1, 1, 1);
        x.set(7, 1);
        x.visit(0, 0, 20, 30);
        x.visit(0, 0, 20, 29);
        x.visit(0, 0, 20, 29);
        Ports.runTill(x, 32);
        CHECK.tells("the third a sep later", x, 2, STANDS, 8);
        CHECK.due("at its LIMIT by its own crew", x.visitTold(0, 8), 128);
        CHECK.due("above it by a SPARE one", x.visitTold(1, 8), 128);
        CHECK.due("that is taken", x.count(10), 0);
        Ports.runTill(x, 34);
        CHECK.due("none for the third", x.visitTold(2, 8), 0);
        CHECK.causes("none for the third", x, 2, WORK, 12, CREW, 2);
        x.set(7, 9);
        x.run(1);
        CHECK.due("one of nine", x.count(10), 8);
        x.run(10);
        CHECK.due("one crew a push", x.count(10), 8);
        CHECK.due("it isn't given back", x.set(7, 0), 8);
    }

    /** CREW: PUSH, t is above LIMIT: other ACTS begin without a crew, and take none. */
    private static void crewsForThePushAlone() {
        for (int spare = 0; spare < 3; spare++) {
            WingPort x = Ports.with(1, 1);
            x.set(6, 1);
            x.set(7, spare);
            x.visit(0, 0, 20, 1);
            Ports.runTill(x, 36);
            CHECK.due("all but ICE and PUSH is done", x.visitTold(0, 6), 63);
            CHECK.due("no crew is taken yet", x.count(10), spare);
            CHECK.causes("above LIMIT since 2", x, 0, WORK, 16);
            x.run(1);
            CHECK.due("PUSH of " + spare, x.visitTold(0, 8), spare == 0 ? 0 : 128);
            CHECK.due("SPARE of " + spare, x.count(10), Math.max(0, spare - 1));
            CHECK.causes("PUSH of " + spare, x, 0, WORK, spare == 0 ? 16 : 17, CREW, spare == 0 ? 1 : 0);
        }
    }

    /** (4) is ahead of (5): an ICER goes to one that stands. */
    private static void icerByActFirst() {
        WingPort x = Ports.with(1, 1, 1);
        x.set(6, 1);
        x.visit(0, 0, 76, 999);
        x.visit(0, 47, 300, 999);
        Ports.runTill(x, 77);
        CHECK.tells("iced 40 ticks ago", x, 0, WAITS, 76);
        CHECK.causes("iced 40 ticks ago", x, 0, WORK, 1);
        x.run(1);
        CHECK.due("the one that stands is iced", x.visitTold(1, 8), 64);
        CHECK.due("the one that waits isn't", x.visitTold(0, 8), 0);
        CHECK.causes("iced 41 ticks ago", x, 0, WORK, 1, ICE, 1);
        Ports.runTill(x, 84);
        CHECK.due("then it is", x.visitTold(0, 8), 64);
        Ports.runTill(x, 90);
        CHECK.tells("leaves as it is iced", x, 0, LEAVES, 89);
        CHECK.causes("iced", x, 0, WORK, 1, ICE, 12);
    }

    /** ICE is under way again, if an ICER isn't BUSY, and it isn't: not a second time at once. */
    private static void icedByOneIcer() {
        WingPort x = Ports.with(3, 1);
        x.set(6, 1);
        x.visit(0, 0, 76, 999);
        for (int tick = 77; tick < 83; tick++) {
            Ports.runTill(x, tick + 1);
            CHECK.due("under way at " + tick, x.visitTold(0, 8), 64);
            CHECK.due("one ICER of three at " + tick, x.trucks(4, 1), 1);
        }
        x.run(1);
        CHECK.tells("leaves", x, 0, LEAVES, 83);
        CHECK.due("no ICER", x.trucks(4, 1), 0);
    }

    /** More than 40 ticks ago: READY by a tick, or not, while there is no ICER. */
    private static void noIcerByATick() {
        for (int etd = 71; etd < 74; etd++) {
            WingPort x = Ports.with(1, 1);
            x.set(6, 1);
            x.visit(0, 0, etd, 999);
            Ports.runTill(x, etd + 4);
            CHECK.due("no ICER any more", x.set(4, 0), 1);
            x.run(1);
            boolean fine = etd + 4 <= 36 + 40;
            CHECK.tells("etd " + etd, x, 0, fine ? LEAVES : WAITS, fine ? etd + 4 : etd);
            CHECK.causes("etd " + etd, x, 0, WORK, 4, ICE, fine ? 0 : 1);
        }
    }

    /** VISITS that WAIT, by numbers: also one whose number is above those of the STANDS. */
    private static void icedAgainByNumber() {
        WingPort x = Ports.with(1, 1);
        x.set(6, 1);
        x.visit(0, 500, 600, 999);
        x.visit(0, 500, 600, 999);
        x.visit(0, 0, 76, 999);
        Ports.runTill(x, 78);
        CHECK.due("under way", x.visitTold(2, 8), 64);
        Ports.runTill(x, 84);
        CHECK.tells("leaves", x, 2, LEAVES, 83);
        CHECK.causes("iced again", x, 2, WORK, 1, ICE, 6);
    }

    /** READY: ... WAITS for 4 ticks, is not under way with ICE, and doesn't need it. */
    private static void icedWhileNotColdAnyMore() {
        WingPort x = Ports.with(1, 1);
        x.set(6, 1);
        x.visit(0, 0, 100, 999);
        Ports.runTill(x, 102);
        x.set(6, 0);
        Ports.runTill(x, 106);
        CHECK.tells("under way, though it isn't COLD", x, 0, WAITS, 100);
        x.run(1);
        CHECK.tells("leaves", x, 0, LEAVES, 106);
        CHECK.causes("under way", x, 0, ICE, 6);
        WingPort y = Ports.with(1, 1);
        y.visit(0, 0, 100, 999);
        Ports.runTill(y, 102);
        y.set(6, 1);
        y.set(4, 0);
        y.run(1);
        CHECK.causes("needed in its first ticks", y, 0, WORK, 2, ICE, 1);
        y.set(6, 0);
        y.run(1);
        CHECK.causes("not needed any more", y, 0, WORK, 3, ICE, 1);
        y.run(1);
        CHECK.tells("as if nothing was", y, 0, LEAVES, 104);
    }

    /** PUSH: its STAND is free, ahead of the runways. */
    private static void standIsFreeInTheTick() {
        WingPort x = Ports.with(1, 1);
        x.visit(0, 0, 50, 999);
        x.visit(0, 45, 49, 999);
        Ports.runTill(x, 50);
        CHECK.tells("its stand isn't free", x, 1, HOLDS, 45);
        CHECK.causes("its stand isn't free", x, 1, STAND, 1);
        x.run(1);
        CHECK.tells("pushed", x, 0, WAITS, 50);
        CHECK.due("has no stand any more", x.visitTold(0, 3), -1);
        CHECK.tells("lands", x, 1, LANDS, 50);
        CHECK.due("on that stand", x.visitTold(1, 3), 0);
        CHECK.due("it has the stand", x.standTold(0, 1), 1);
        CHECK.causes("lands", x, 1, STAND, 1, ARRIVAL, 1);
    }

    /** HOLDS: STAND, if it has none (now): what has gone in this tick is gone. */
    private static void oneStandForTwo() {
        WingPort x = twoRunways(1, 1);
        x.visit(0, 0, 1, 999);
        x.visit(0, 0, 1, 999);
        x.late(0, 5);
        x.late(1, 5);
        Ports.runTill(x, 6);
        CHECK.tells("the first lands", x, 0, LANDS, 5);
        CHECK.tells("the other has no stand", x, 1, HOLDS, 5);
        CHECK.due("the other runway is free", x.runwayTold(1, 1), -1);
        CHECK.causes("the first", x, 0, ARRIVAL, 5);
        CHECK.causes("the other", x, 1, ARRIVAL, 4, STAND, 1);
    }

    /** Its WISH, if that is free (and told), else of all that are free and of its SIZE at least ... */
    private static void noStandForOne() {
        WingPort x = twoRunways(1, 3, 1, 2);
        x.visit(3, 0, 300, 999);
        x.visit(3, 0, 5, 999);
        x.wish(1, 0);
        Ports.runTill(x, 9);
        CHECK.tells("its wish isn't free, others are too small", x, 1, HOLDS, 0);
        CHECK.causes("no stand", x, 1, STAND, 4);
        x.stand(3);
        x.run(1);
        CHECK.due("one that fits, though it wishes another", x.visitTold(1, 3), 3);
        CHECK.due("its wish stays", x.visitTold(1, 9), 0);
        WingPort y = twoRunways(1, 3, 2, 2);
        y.visit(1, 0, 300, 999);
        y.visit(1, 0, 300, 999);
        y.wish(0, 2);
        y.run(1);
        CHECK.due("its wish, of like ones not the least", y.visitTold(0, 3), 2);
        CHECK.due("the least of like ones is left", y.visitTold(1, 3), 1);
        for (int s = 0; s < 3; s++) {
            WingPort w = twoRunways(1, 3, 2, 1);
            w.visit(0, 0, 300, 999);
            w.wish(0, s);
            w.run(1);
            CHECK.due("its wish, though it is not the least size", w.visitTold(0, 3), s);
        }
        WingPort z = twoRunways(1, 3, 2, 2);
        z.visit(1, 0, 300, 999);
        z.wish(0, 0);
        z.wish(0, -1);
        z.run(1);
        CHECK.due("a wish that was taken back", z.visitTold(0, 3), 1);
    }

    /** RUNWAYS by numbers: of VISITS that are READY for it ... */
    private static void runwaysByNumbers() {
        WingPort x = Ports.with(1, 1, 1, 1);
        x.set(8, 2);
        Ports.rule(x, "prio kind; sep 0; hold 0;");
        x.visit(0, 0, 300, 999);
        x.visit(4, 0, 300, 999);
        x.visit(2, 0, 300, 999);
        x.run(1);
        CHECK.due("the greatest prio on runway 0", x.runwayTold(0, 1), 4);
        CHECK.due("the next one on runway 1", x.runwayTold(1, 1), 2);
        CHECK.tells("the third holds", x, 0, HOLDS, 0);
        x.run(1);
        CHECK.tells("a tick ahead of the end", x, 0, HOLDS, 0);
        x.run(1);
        CHECK.tells("at the end", x, 0, LANDS, 2);
        CHECK.due("on runway 0", x.runwayTold(0, 0), 4);
        CHECK.due("not on runway 1", x.runwayTold(1, 0), 2);
        WingPort y = twoRunways(1, 1, 1);
        y.visit(0, 0, 300, 999);
        y.visit(0, 1, 300, 999);
        y.run(2);
        CHECK.due("runway 1, while 0 is used", y.runwayTold(1, 0), 3);
        WingPort z = twoRunways(1, 1, 1);
        z.set(8, 1);
        z.visit(0, 0, 300, 999);
        z.visit(0, 0, 300, 999);
        z.run(1);
        CHECK.tells("just one runway", z, 1, HOLDS, 0);
    }

    /** ENDS and, if it has a PREV, what sep says more: a large one doesn't wrap. */
    private static void sepOfTheLargest() {
        WingPort x = Ports.with(1, 1, 1);
        Ports.rule(x, "prio 0; sep " + LARGEST + "; hold 0;");
        x.visit(0, 0, 300, 999);
        x.visit(0, 0, 300, 999);
        Ports.runTill(x, 60);
        CHECK.tells("the first lands, as there is no PREV", x, 0, STANDS, 6);
        CHECK.tells("the other never", x, 1, HOLDS, 0);
        x.run(1);
        CHECK.tells("till it went", x, 1, WENT, 60);
        WingPort y = Ports.with(1, 1, 1);
        Ports.rule(y, "prio 0; sep " + LARGEST + "+1; hold 0;");
        y.visit(0, 0, 300, 999);
        y.visit(0, 0, 300, 999);
        Ports.runTill(y, 3);
        CHECK.tells("a larger one wraps, and is 0 then", y, 1, LANDS, 2);
    }

    private static void prioOfTheLeast() {
        WingPort x = Ports.with(1, 1, 1);
        Ports.rule(x, "prio " + LARGEST + "+1-kind; sep 0; hold 0;");
        x.visit(0, 0, 300, 999);
        x.visit(2, 0, 300, 999);
        x.run(1);
        CHECK.tells("the largest int", x, 1, LANDS, 0);
        CHECK.tells("the least int", x, 0, HOLDS, 0);
        x.run(2);
        CHECK.tells("the least int, alone", x, 0, LANDS, 2);
        WingPort y = Ports.with(1, 1, 1);
        Ports.rule(y, "prio " + LARGEST + "-kind; sep 0; hold 0;");
        y.visit(2, 0, 300, 999);
        y.visit(0, 0, 300, 999);
        y.run(1);
        CHECK.tells("the largest int itself", y, 1, LANDS, 0);
        CHECK.tells("two less", y, 0, HOLDS, 0);
    }

    /** prio is asked for with the PREV of the runway that is given, not of the other one. */
    private static void prioByRunway() {
        WingPort x = Ports.with(1, 1, 3, 1, 2, 1);
        x.set(8, 2);
        Ports.rule(x, "prio (prev = 3) * (kind = 1); sep 0; hold 0;");
        x.visit(0, 0, 300, 999);
        x.visit(3, 0, 300, 999);
        x.visit(2, 3, 300, 999);
        x.visit(1, 3, 300, 999);
        x.visit(0, 2, 300, 999);
        x.run(4);
        CHECK.due("a PLANE behind a PLANE on runway 0", x.runwayTold(0, 0), 4);
        CHECK.tells("a JET behind the WIDE", x, 3, LANDS, 3);
        CHECK.due("on runway 1", x.runwayTold(1, 1), 1);
        CHECK.tells("though the PROP's number is less", x, 2, HOLDS, 3);
        x.run(1);
        CHECK.tells("then the PROP", x, 2, LANDS, 4);
    }

    /** What sep says is asked for just if there is a PREV, of this runway, and below 0 it is 0. */
    private static void apartFromNone() {
        WingPort x = Ports.with(1, 1, 1, 1);
        x.set(8, 2);
        Ports.rule(x, "prio 0; sep 50 - wait * 100; hold 0;");
        x.visit(0, 0, 300, 999);
        x.visit(0, 1, 300, 999);
        x.visit(0, 2, 300, 999);
        Ports.runTill(x, 3);
        CHECK.tells("no PREV on runway 0", x, 0, ROLLS, 2);
        CHECK.tells("no PREV on runway 1", x, 1, LANDS, 1);
        CHECK.tells("50 behind a PREV", x, 2, HOLDS, 2);
        x.run(1);
        CHECK.tells("-50 is 0", x, 2, LANDS, 3);
        CHECK.due("runway 0", x.runwayTold(0, 0), 5);
    }

    /** sep is by the PREV of the RUNWAY that is asked for, not of the other one. */
    private static void apartByRunway() {
        for (int wide = 0; wide < 2; wide++) {
            WingPort x = Ports.with(1, 3, 3, 1, 1);
            x.set(8, 2);
            Ports.rule(x, "prio 0; sep (prev = 3) * 20; hold 0;");
            x.visit(wide == 0 ? 3 : 0, 0, 300, 999);
            x.visit(wide == 0 ? 0 : 3, 0, 300, 999);
            x.visit(0, 1, 300, 999);
            x.visit(0, 1, 300, 999);
            x.run(3);
            CHECK.due("the WIDE on runway " + wide, x.runwayTold(wide, 1), 3);
            CHECK.tells("one on the other runway", x, 2, LANDS, 2);
            CHECK.due("it ends there", x.runwayTold(1 - wide, 0), 4);
            x.run(2);
            CHECK.tells("the next one, too", x, 3, LANDS, 4);
            CHECK.due("behind a PLANE", x.runwayTold(1 - wide, 0), 6);
            x.visit(0, 22, 300, 999);
            x.visit(0, 23, 300, 999);
            x.stand(1);
            x.stand(1);
            Ports.runTill(x, 23);
            CHECK.due("19 behind the WIDE", x.runwayTold(wide, 0), 3);
            CHECK.due("so on the other runway", x.runwayTold(1 - wide, 0), 24);
            x.run(1);
            CHECK.due("20 behind the WIDE", x.runwayTold(wide, 0), 25);
        }
    }

    /** Its KIND is PREV: also that of one that leaves. */
    private static void prevThatLeaves() {
        WingPort x = Ports.with(1, 1, 1, 1);
        Ports.rule(x, "prio 0; sep (prev = 2) * 30; hold 0;");
        x.visit(2, 0, 40, 999);
        x.visit(0, 20, 300, 999);
        x.visit(0, 46, 300, 999);
        Ports.runTill(x, 32);
        CHECK.tells("a PROP landed till 2", x, 1, HOLDS, 20);
        x.run(1);
        CHECK.tells("30 behind it", x, 1, LANDS, 32);
        Ports.runTill(x, 44);
        CHECK.due("PREV is a PLANE", x.runwayTold(0, 1), 0);
        x.run(1);
        CHECK.tells("the PROP leaves", x, 0, LEAVES, 44);
        CHECK.due("PREV is a PROP again", x.runwayTold(0, 1), 2);
        CHECK.due("till", x.runwayTold(0, 0), 46);
        Ports.runTill(x, 76);
        CHECK.tells("29 behind it", x, 2, HOLDS, 46);
        x.run(1);
        CHECK.tells("30 behind it again", x, 2, LANDS, 76);
    }

    /** (3) is ahead of (6): what has come in this tick isn't waited for any more. */
    private static void prioBehindTheFeeds() {
        for (int cart = 29; cart <= 31; cart++) {
            WingPort x = Ports.with(2, 1, 2, 2);
            Ports.rule(x, "prio 0 - bags; sep 0; hold 0;");
            x.visit(1, 100, 300, 999);
            x.visit(1, 44, 300, 999);
            x.visit(1, 44, 300, 999);
            x.visit(0, 0, 300, 999);
            x.feed(3, 1, 9, cart);
            Ports.runTill(x, 45);
            int first = cart <= 30 ? 1 : 2;
            CHECK.due("there at " + (14 + cart), x.feedTold(0, 3), cart <= 30 ? 2 : 1);
            CHECK.tells("the first, cart " + cart, x, first, LANDS, 44);
            CHECK.tells("the other, cart " + cart, x, 3 - first, HOLDS, 44);
        }
    }

    /** WAITS: ... else as HOLDS (6, 5). */
    private static void fogOfOneThatWaits() {
        int[][] rows = {{1, 2, FOG}, {1, 1, RUNWAY}, {0, 1, RUNWAY}};
        for (int[] row : rows) {
            String what = "FOG " + row[0] + ", RUNWAYS " + row[1];
            WingPort x = Ports.with(1, 1, 1);
            x.set(5, row[0]);
            x.set(8, row[1]);
            Ports.rule(x, "prio in; sep 6; hold 0;");
            x.visit(0, 0, 40, 999);
            x.visit(0, 44, 300, 999);
            Ports.runTill(x, 52);
            CHECK.tells(what + ": it waits", x, 0, WAITS, 40);
            CHECK.causes(what, x, 0, WORK, 4, row[2], 8);
            x.run(1);
            CHECK.tells(what + ": it leaves", x, 0, LEAVES, 52);
        }
        WingPort y = Ports.with(1, 1, 1);
        y.set(8, 2);
        y.visit(0, 0, 40, 999);
        y.visit(0, 44, 300, 999);
        Ports.runTill(y, 45);
        CHECK.tells("two runways and no FOG", y, 0, LEAVES, 44);
        CHECK.due("on runway 1", y.runwayTold(1, 0), 46);
    }

    /** 6 FOG, if FOG and 2 RUNWAYS, else 5 RUNWAY: as it is in each tick. */
    private static void fogThatComesAndGoes() {
        for (int runways = 1; runways < 3; runways++) {
            WingPort x = Ports.with(1, 1, 1, 1);
            x.set(8, runways);
            Ports.rule(x, "prio 0; sep 20; hold 0;");
            x.visit(0, 0, 300, 999);
            x.visit(0, 0, 300, 999);
            x.visit(0, 0, 1, 999);
            for (int tick = 0; tick < 22; tick++) {
                x.set(5, tick % 2);
                x.run(1);
            }
            CHECK.tells("ahead of the end of sep", x, 2, HOLDS, 0);
            CHECK.causes("runways " + runways, x, 2, FOG, runways == 2 ? 11 : 0, RUNWAY, runways == 2 ? 10 : 21);
        }
    }

    /** STANDS: its least ACT that wasn't DONE: WORK, if it was under way then, else what hindered it. */
    private static void workAheadOfWant() {
        WingPort x = Ports.with(1, 1);
        x.set(2, 0);
        x.visit(0, 0, 7, 999);
        Ports.runTill(x, 19);
        CHECK.due("FUEL is under way, FOOD is wanted", x.visitTold(0, 8), 8);
        CHECK.causes("FUEL is the least", x, 0, WORK, 12);
        x.run(1);
        CHECK.causes("FOOD is the least", x, 0, WORK, 12, WANT, 1);
        WingPort y = Ports.with(1, 1);
        y.set(1, 0);
        y.visit(0, 0, 15, 999);
        Ports.runTill(y, 18);
        CHECK.causes("CLEAN is the least", y, 0, WORK, 3);
        y.run(4);
        CHECK.due("FOOD is under way, FUEL is wanted", y.visitTold(0, 8), 16);
        CHECK.causes("FUEL is the least, though FOOD is under way", y, 0, WORK, 3, WANT, 4);
    }

    /** VISITS of STATE 0 .. 5, t not below ETD. */
    private static void lateFromEtdOn() {
        WingPort x = Ports.with(1, 1);
        x.visit(0, 0, 29, 999);
        x.visit(0, 60, 61, 999);
        Ports.runTill(x, 29);
        CHECK.causes("ahead of ETD", x, 0);
        x.run(1);
        CHECK.causes("at ETD", x, 0, WORK, 1);
        Ports.runTill(x, 37);
        CHECK.causes("till it leaves", x, 0, WORK, 8);
        CHECK.tells("waits", x, 0, WAITS, 33);
        x.run(1);
        CHECK.tells("leaves", x, 0, LEAVES, 37);
        CHECK.causes("not as it leaves", x, 0, WORK, 8);
        Ports.runTill(x, 63);
        CHECK.tells("lands, though late", x, 1, ROLLS, 62);
        CHECK.causes("lands, rolls", x, 1, ARRIVAL, 2);
        Ports.runTill(x, 67);
        CHECK.causes("stands", x, 1, ARRIVAL, 5, WORK, 1);
        WingPort y = new WingPort();
        y.visit(0, 5, 9, 999);
        y.late(0, 10);
        Ports.runTill(y, 9);
        CHECK.causes("due ahead of ETD", y, 0);
        y.run(1);
        CHECK.causes("due at ETD", y, 0, ARRIVAL, 1);
    }

    private static void lateNoMore() {
        WingPort x = Ports.with(1, 1);
        x.visit(1, 0, 59, 999);
        x.visit(1, 0, 60, 999);
        Ports.runTill(x, 100);
        CHECK.causes("the last tick in which it holds", x, 0, STAND, 1);
        CHECK.causes("none as it went", x, 1);
        CHECK.due("late ticks of all", x.count(8), 1);
    }

    private static void lastTick() {
        WingPort x = new WingPort();
        Ports.runTill(x, 9990);
        x.visit(0, 9997, 9998, 9);
        x.visit(0, 9998, 9999, 9);
        Ports.runTill(x, 9999);
        CHECK.causes("tick 9998 was the last", x, 0, STAND, 1);
        CHECK.causes("tick 9999 does not come", x, 1);
        CHECK.tells("comes in the last tick", x, 1, HOLDS, 9998);
        CHECK.due("no visit at TICK 9999", x.visit(0, 9999, 10000, 9), WingPort.BAD);
        CHECK.due("nor with an etd that isn't behind it", x.visit(0, 9999, 9999, 9), WingPort.BAD);
        CHECK.due("nor a tick", x.run(1), WingPort.FULL);
        CHECK.due("nor beside", x.beside(1, 0), WingPort.FULL);
        CHECK.due("nor a plan", x.plan(2, 1), WingPort.FULL);
        CHECK.due("but what was thought", x.expects(0, 9999), 9997 + 6 + 27);
    }
}
