/** Promise 8: what a tick does, in its order, and which cause a late tick has. */
public final class TickTest {
    private static final Check CHECK = new Check("tick");
    private static final int ARRIVAL = 0, STAND = 1, WORK = 2, WANT = 3, BAGS = 4, RUNWAY = 5, FOG = 6, CREW = 7,
        ICE = 8;

    public static void main(String[] args) {
        bounds();
        wholeVisit();
        actsInOrder();
        actsOfNoTicks();
        holdsTooLong();
        standsThatFit();
        wishedStand();
        runwaysInOrder();
        apartByRule();
        fog();
        wants();
        truckOfTheLeast();
        bagsAreWaitedFor();
        bagsAreHeldFor();
        bagsTooLate();
        bagsOfOneThatWent();
        crews();
        pushNotAhead();
        iced();
        icedAgain();
        icedLongAgo();
        icerIsBusy();
        coldComesLater();
        coldComesSoon();
        holdsForARunway();
        holdOfTheVisit();
        fullPort();
        CHECK.end();
    }

    private static void bounds() {
        WingPort x = new WingPort();
        CHECK.due("run(0)", x.run(0), WingPort.BAD);
        CHECK.due("run(-1)", x.run(-1), WingPort.BAD);
        CHECK.due("run(201)", x.run(201), WingPort.BAD);
        CHECK.due("run(1)", x.run(1), 1);
        CHECK.due("run(200)", x.run(200), 201);
        Ports.runTill(x, 9900);
        CHECK.due("beyond 9999", x.run(100), WingPort.FULL);
        CHECK.due("bad, ahead of beyond", x.run(201), WingPort.BAD);
        CHECK.due("to 9999", x.run(99), 9999);
        CHECK.due("no more", x.run(1), WingPort.FULL);
        CHECK.due("TICK", x.count(0), 9999);
    }

    private static void wholeVisit() {
        WingPort x = Ports.with(1, 1);
        x.visit(0, 3, 100, 999);
        Ports.runTill(x, 3);
        CHECK.tells("not come", x, 0, 0, 0);
        x.run(1);
        CHECK.tells("lands as it comes", x, 0, 2, 3);
        x.run(1);
        CHECK.tells("lands still", x, 0, 2, 3);
        x.run(1);
        CHECK.tells("rolls", x, 0, 3, 5);
        Ports.runTill(x, 9);
        CHECK.tells("rolls still", x, 0, 3, 5);
        x.run(1);
        CHECK.tells("stands", x, 0, 4, 9);
        Ports.runTill(x, 100);
        CHECK.tells("stands still", x, 0, 4, 9);
        CHECK.due("all but the push", x.visitTold(0, 6), 127);
        CHECK.due("the push is under way", x.visitTold(0, 8), 128);
        x.run(1);
        CHECK.tells("waits", x, 0, 5, 100);
        CHECK.due("all acts", x.visitTold(0, 6), 255);
        CHECK.due("has no stand", x.visitTold(0, 3), -1);
        Ports.runTill(x, 104);
        CHECK.tells("waits still", x, 0, 5, 100);
        x.run(1);
        CHECK.tells("leaves", x, 0, 6, 104);
        CHECK.due("the runway ends", x.runwayTold(0, 0), 106);
        x.run(1);
        CHECK.tells("leaves still", x, 0, 6, 104);
        x.run(1);
        CHECK.tells("gone", x, 0, 7, 106);
        CHECK.causes("whole", x, 0, WORK, 4);
        x.run(50);
        CHECK.causes("gone", x, 0, WORK, 4);
        CHECK.due("late ticks of all", x.count(8), 4);
    }

    private static void actsInOrder() {
        WingPort x = Ports.with(1, 1);
        x.visit(0, 0, 200, 999);
        int[][] rows = {{6, 0, 1}, {8, 1, 2}, {14, 3, 4 + 8}, {18, 7, 8 + 16}, {19, 15, 16}, {22, 31, 32}, {29, 31, 32},
            {30, 127, 0}};
        for (int[] row : rows) {
            Ports.runTill(x, row[0] + 1);
            CHECK.due("done at " + row[0], x.visitTold(0, 6), row[1]);
            CHECK.due("under way at " + row[0], x.visitTold(0, 8), row[2]);
        }
    }

    private static void actsOfNoTicks() {
        WingPort x = Ports.with(1, 1, 3);
        x.set(2, 0);
        x.visit(4, 0, 200, 999);
        Ports.runTill(x, 14);
        CHECK.due("a SHUTTLE is cleaned, fuelled", x.visitTold(0, 8), 8);
        CHECK.due("its food is done at once", x.visitTold(0, 6), 1 + 2 + 4 + 16);
        x.run(3);
        CHECK.due("it is loaded, though there is no FOOD truck", x.visitTold(0, 8), 32);
        WingPort y = Ports.with(1, 3);
        y.visit(5, 0, 200, 999);
        Ports.runTill(y, 30);
        CHECK.due("a FREIGHTER: clean and food done at once", y.visitTold(0, 6), 1 + 2 + 4 + 16);
        CHECK.due("a FREIGHTER is fuelled", y.visitTold(0, 8), 8);
    }

    private static void holdsTooLong() {
        WingPort x = Ports.with(1, 1);
        x.visit(1, 0, 10, 999);
        Ports.runTill(x, 60);
        CHECK.tells("holds", x, 0, 1, 0);
        x.run(1);
        CHECK.tells("went", x, 0, 8, 60);
        CHECK.causes("went", x, 0, STAND, 50);
        x.stand(2);
        x.run(20);
        CHECK.tells("went for ever", x, 0, 8, 60);
        CHECK.due("WENT", x.beside(1, 2), 1);
    }

    private static void standsThatFit() {
        WingPort x = Ports.with(1, 3, 2, 1, 2, 1);
        x.set(8, 2);
        for (int v = 0; v < 5; v++) {
            x.visit(v == 0 ? 1 : 0, 0, 100, 999);
        }
        Ports.runTill(x, 30);
        int[] due = {1, 2, 4, 3, 0};
        for (int v = 0; v < 5; v++) {
            CHECK.due("stand of " + v, x.visitTold(v, 3), due[v]);
        }
        x.visit(0, 30, 100, 999);
        x.run(1);
        CHECK.tells("none is free", x, 5, 1, 30);
    }

    private static void wishedStand() {
        WingPort x = Ports.with(1, 1, 3);
        x.visit(0, 0, 100, 999);
        x.visit(0, 0, 100, 999);
        x.wish(0, 1);
        x.wish(1, 1);
        x.run(5);
        CHECK.due("its wish", x.visitTold(0, 3), 1);
        CHECK.due("its wish isn't free", x.visitTold(1, 3), 0);
    }

    private static void runwaysInOrder() {
        WingPort x = Ports.with(2, 1, 1, 1);
        x.visit(0, 1, 100, 999);
        x.visit(0, 0, 100, 999);
        x.visit(0, 1, 100, 999);
        x.run(1);
        CHECK.tells("the one that came", x, 1, 2, 0);
        Ports.runTill(x, 4);
        CHECK.tells("the runway has ended, but sep is 2", x, 0, 1, 1);
        x.run(1);
        CHECK.tells("of like ones the least", x, 0, 2, 4);
        CHECK.tells("the other holds", x, 2, 1, 1);
        WingPort y = Ports.with(2, 1, 1);
        Ports.rule(y, "prio kind; sep 0; hold 0;");
        y.visit(0, 0, 100, 999);
        y.visit(2, 0, 100, 999);
        y.run(1);
        CHECK.tells("the greatest prio", y, 1, 2, 0);
        y.run(2);
        CHECK.tells("the other one as the runway ends", y, 0, 2, 2);
        WingPort z = Ports.with(2, 1, 1);
        Ports.rule(z, "prio -kind; sep 0; hold 0;");
        z.visit(4, 0, 100, 999);
        z.visit(2, 0, 100, 999);
        z.run(1);
        CHECK.tells("the greatest of those below 0", z, 1, 2, 0);
    }

    private static void apartByRule() {
        WingPort x = Ports.with(2, 3, 3, 1);
        x.set(8, 2);
        Ports.rule(x, "prio 0 - prev; sep (prev = 3) * (kind < 3) * 7 - 5; hold 0;");
        x.visit(3, 0, 100, 999);
        x.visit(3, 0, 100, 999);
        x.visit(0, 1, 100, 999);
        x.run(1);
        CHECK.due("two runways at once", x.runwayTold(1, 1), 3);
        Ports.runTill(x, 5);
        CHECK.tells("behind a WIDE by 2", x, 2, 1, 1);
        x.run(1);
        CHECK.tells("then", x, 2, 2, 5);
        CHECK.due("on runway 0", x.runwayTold(0, 0), 7);
        CHECK.due("not on runway 1", x.runwayTold(1, 0), 3);
        x.visit(0, 7, 100, 999);
        x.run(2);
        CHECK.tells("no stand", x, 3, 1, 7);
        x.stand(1);
        x.run(1);
        CHECK.tells("sep below 0 is 0", x, 3, 2, 8);
    }

    private static void fog() {
        WingPort x = Ports.with(2, 1, 1, 1);
        x.set(8, 2);
        x.set(5, 1);
        x.visit(0, 0, 3, 999);
        x.visit(0, 0, 3, 999);
        x.run(8);
        CHECK.tells("fog: sep is 6", x, 1, 1, 0);
        CHECK.due("runway 1 is shut", x.runwayTold(1, 1), -1);
        x.run(1);
        CHECK.tells("behind 6 ticks", x, 1, 2, 8);
        CHECK.causes("fog", x, 1, FOG, 5, ARRIVAL, 1);
        WingPort y = Ports.with(2, 1, 1, 1);
        y.set(5, 1);
        y.visit(0, 0, 3, 999);
        y.visit(0, 0, 3, 999);
        y.run(8);
        CHECK.causes("fog on one runway", y, 1, RUNWAY, 5);
        WingPort z = Ports.with(2, 1, 1, 1);
        z.set(8, 2);
        z.set(5, 1);
        z.visit(0, 0, 3, 999);
        z.visit(0, 0, 3, 999);
        z.run(2);
        z.set(5, 0);
        z.run(1);
        CHECK.tells("out of the fog", z, 1, 2, 2);
        CHECK.due("on runway 1", z.runwayTold(1, 0), 4);
    }

    private static void wants() {
        WingPort x = Ports.with(1, 1);
        x.set(0, 0);
        x.visit(0, 0, 3, 999);
        x.run(20);
        CHECK.causes("no stairs", x, 0, ARRIVAL, 3, WANT, 14);
        x.set(0, 1);
        x.set(1, 0);
        Ports.runTill(x, 40);
        CHECK.due("cleaned and fed, not fuelled", x.visitTold(0, 6), 1 + 2 + 4 + 16);
        CHECK.causes("work is ahead of want while CLEAN is the least", x, 0, ARRIVAL, 3, WANT, 14 + 8, WORK, 8 + 4);
    }

    private static void truckOfTheLeast() {
        WingPort x = Ports.with(1, 1, 1);
        x.set(8, 2);
        x.visit(0, 0, 7, 999);
        x.visit(0, 0, 7, 999);
        Ports.runTill(x, 7);
        CHECK.due("the first has the stairs", x.visitTold(0, 8), 1);
        CHECK.due("the other waits", x.visitTold(1, 8), 0);
        x.run(1);
        CHECK.causes("wants", x, 1, WANT, 1);
        x.run(1);
        CHECK.due("the stairs go over in the tick that frees them", x.visitTold(1, 8), 1);
        CHECK.causes("works", x, 1, WANT, 1, WORK, 1);
    }

    private static void bagsAreWaitedFor() {
        WingPort x = Ports.with(2, 1, 1);
        x.set(8, 2);
        x.visit(0, 0, 40, 999);
        x.visit(0, 0, 30, 999);
        x.feed(0, 1, 5, 20);
        Ports.runTill(x, 23);
        CHECK.due("the first is loaded", x.visitTold(0, 8), 32);
        CHECK.due("the other waits for bags", x.visitTold(1, 8), 0);
        Ports.runTill(x, 30);
        CHECK.due("till its etd", x.visitTold(1, 8), 0);
        CHECK.causes("waits in time", x, 1);
        x.run(1);
        CHECK.due("no longer", x.visitTold(1, 8), 32);
        CHECK.causes("work", x, 1, WORK, 1);
        Ports.runTill(x, 35);
        CHECK.due("there while it is loaded", x.feedTold(0, 3), 2);
        WingPort y = Ports.with(2, 1, 1);
        y.set(8, 2);
        y.visit(0, 0, 40, 999);
        y.visit(0, 0, 60, 999);
        y.feed(0, 1, 5, 20);
        Ports.runTill(y, 35);
        CHECK.due("loads as the bags come", y.visitTold(1, 8), 32);
    }

    private static void bagsAreHeldFor() {
        WingPort x = Ports.with(2, 1, 1);
        x.set(8, 2);
        Ports.rule(x, "prio 0; sep 0; hold bags * 3 + late * 0 + prev + 1;");
        x.visit(0, 0, 40, 999);
        x.visit(0, 0, 24, 999);
        x.feed(0, 1, 5, 20);
        x.feed(0, 1, 6, 21);
        Ports.runTill(x, 30);
        CHECK.due("held", x.visitTold(1, 8), 0);
        CHECK.causes("held", x, 1, BAGS, 6);
        x.run(1);
        CHECK.due("held no longer", x.visitTold(1, 8), 32);
        CHECK.causes("works", x, 1, BAGS, 6, WORK, 1);
        WingPort y = Ports.with(2, 1, 1);
        y.set(8, 2);
        Ports.rule(y, "prio 0; sep 0; hold -9;");
        y.visit(0, 0, 40, 999);
        y.visit(0, 0, 24, 999);
        y.feed(0, 1, 5, 20);
        Ports.runTill(y, 24);
        CHECK.due("hold below 0 is 0", y.visitTold(1, 8), 0);
        y.run(1);
        CHECK.due("loads at etd", y.visitTold(1, 8), 32);
        WingPort z = Ports.with(2, 1, 1);
        z.set(8, 2);
        Ports.rule(z, "prio 0; sep 0; hold 9999*9999*21+9999*4790+8416;");
        z.visit(0, 0, 40, 999);
        z.visit(0, 0, 24, 999);
        z.feed(0, 1, 5, 99);
        Ports.runTill(z, 60);
        CHECK.due("hold near the largest int", z.tells(1, 2), 2147483647);
        CHECK.due("still held", z.visitTold(1, 6), 31);
    }

    private static void bagsTooLate() {
        WingPort x = Ports.with(2, 1, 1);
        x.set(8, 2);
        x.visit(0, 0, 90, 999);
        x.visit(0, 0, 20, 999);
        x.feed(0, 1, 5, 16);
        x.feed(0, 1, 7, 15);
        Ports.runTill(x, 31);
        CHECK.due("loaded at 30", x.visitTold(1, 6) & 32, 32);
        CHECK.due("there ahead of that", x.feedTold(1, 3), 2);
        CHECK.due("missed as it comes at 30", x.feedTold(0, 3), 3);
        CHECK.due("bags that are missed", x.count(9), 5);
    }

    private static void bagsOfOneThatWent() {
        WingPort x = Ports.with(2, 1);
        x.visit(1, 0, 500, 999);
        x.visit(0, 0, 300, 999);
        x.visit(0, 0, 500, 999);
        x.feed(0, 1, 5, 20);
        x.feed(1, 0, 6, 99);
        x.feed(1, 2, 7, 3);
        Ports.runTill(x, 60);
        CHECK.due("in the plane", x.feedTold(0, 3), 0);
        CHECK.due("on the cart", x.feedTold(1, 3), 1);
        x.run(1);
        CHECK.due("from one that went", x.feedTold(0, 3), 3);
        CHECK.due("to one that went", x.feedTold(1, 3), 3);
        CHECK.due("came ahead of that", x.feedTold(2, 3), 2);
        CHECK.due("its bags", x.count(9), 11);
        CHECK.due("beside: missed", x.beside(1, 3), 11);
        CHECK.due("loads at once", x.visitTold(1, 8), 32);
    }

    private static void crews() {
        WingPort x = Ports.with(1, 1);
        x.set(3, 0);
        x.visit(0, 0, 20, 32);
        Ports.runTill(x, 34);
        CHECK.causes("no tug", x, 0, WORK, 10, WANT, 4);
        x.set(3, 1);
        x.run(1);
        CHECK.causes("nor a crew", x, 0, WORK, 10, WANT, 4, CREW, 1);
        x.set(7, 2);
        x.run(1);
        CHECK.due("pushed", x.visitTold(0, 8), 128);
        CHECK.due("a crew is taken", x.count(10), 1);
        CHECK.causes("work", x, 0, WORK, 11, WANT, 4, CREW, 1);
        WingPort y = Ports.with(1, 1);
        y.set(7, 1);
        y.visit(0, 0, 20, 30);
        Ports.runTill(y, 31);
        CHECK.due("pushed at its limit", y.visitTold(0, 8), 128);
        CHECK.due("by its own crew", y.count(10), 1);
        WingPort u = Ports.with(1, 1);
        u.visit(0, 0, 20, 30);
        Ports.runTill(u, 31);
        CHECK.due("at its limit, though there is no spare crew", u.visitTold(0, 8), 128);
        WingPort z = Ports.with(1, 1);
        z.visit(0, 0, 20, 29);
        z.set(7, 1);
        Ports.runTill(z, 31);
        CHECK.due("pushed above its limit", z.visitTold(0, 8), 128);
        CHECK.due("by a spare crew", z.count(10), 0);
        CHECK.due("beside: spare", z.beside(1, 4), 0);
        WingPort w = Ports.with(1, 1);
        w.visit(0, 0, 20, 20);
        w.set(7, 1);
        w.set(3, 0);
        w.late(0, 5);
        Ports.runTill(w, 60);
        CHECK.due("no crew is taken while there is no tug", w.count(10), 1);
    }

    private static void pushNotAhead() {
        WingPort x = Ports.with(1, 1);
        x.visit(0, 0, 50, 999);
        Ports.runTill(x, 47);
        CHECK.due("not yet", x.visitTold(0, 8), 0);
        x.run(1);
        CHECK.due("from etd less 3", x.visitTold(0, 8), 128);
        WingPort y = Ports.with(1, 1);
        y.visit(0, 0, 10, 999);
        Ports.runTill(y, 31);
        CHECK.due("as soon as it is loaded", y.visitTold(0, 8), 128);
    }

    private static void iced() {
        WingPort x = Ports.with(1, 1);
        x.set(6, 1);
        x.visit(0, 0, 72, 999);
        Ports.runTill(x, 31);
        CHECK.due("is iced behind LOAD", x.visitTold(0, 8), 64);
        Ports.runTill(x, 37);
        CHECK.due("iced", x.visitTold(0, 6), 127);
        Ports.runTill(x, 77);
        CHECK.tells("40 ticks ago is not too long", x, 0, 6, 76);
        CHECK.causes("iced", x, 0, WORK, 4);
        WingPort y = Ports.with(1, 1);
        y.set(6, 1);
        y.set(4, 0);
        y.visit(0, 0, 20, 999);
        Ports.runTill(y, 34);
        CHECK.causes("no icer", y, 0, WORK, 10, WANT, 4);
        y.set(6, 0);
        y.run(1);
        CHECK.due("not cold any more", y.visitTold(0, 8), 128);
        WingPort z = Ports.with(1, 1);
        z.set(6, 1);
        z.visit(0, 0, 20, 999);
        Ports.runTill(z, 33);
        z.set(6, 0);
        Ports.runTill(z, 36);
        CHECK.due("what is under way goes on", z.visitTold(0, 8), 64);
    }

    private static void icedAgain() {
        WingPort x = Ports.with(1, 1);
        x.set(6, 1);
        x.visit(0, 0, 76, 999);
        Ports.runTill(x, 77);
        CHECK.due("not yet too long ago", x.visitTold(0, 8), 0);
        x.run(1);
        CHECK.due("too long ago", x.visitTold(0, 8), 64);
        CHECK.due("nothing says that it isn't DONE any more", x.visitTold(0, 6), 255);
        CHECK.due("the icer is busy", x.trucks(4, 1), 1);
        Ports.runTill(x, 83);
        CHECK.tells("waits", x, 0, 5, 76);
        x.run(1);
        CHECK.tells("leaves as it is iced", x, 0, 6, 83);
        CHECK.due("the icer is free", x.trucks(4, 1), 0);
        CHECK.due("all is done", x.visitTold(0, 6), 255);
        CHECK.causes("iced again", x, 0, WORK, 1, ICE, 6);
    }

    private static void icedLongAgo() {
        WingPort x = Ports.with(1, 1);
        x.set(6, 1);
        x.visit(0, 0, 100, 999);
        Ports.runTill(x, 101);
        CHECK.due("in the tick in which it is pushed", x.visitTold(0, 8), 64);
        Ports.runTill(x, 107);
        CHECK.tells("leaves", x, 0, 6, 106);
        CHECK.causes("long ago", x, 0, ICE, 6);
    }

    private static void icerIsBusy() {
        WingPort x = Ports.with(2, 1, 1);
        x.set(4, 1);
        x.set(8, 2);
        Ports.rule(x, "prio 0; sep 0; hold 0;");
        x.set(6, 1);
        x.visit(0, 0, 100, 999);
        x.visit(0, 0, 100, 999);
        Ports.runTill(x, 101);
        CHECK.due("the first is iced", x.visitTold(0, 8), 64);
        CHECK.due("the other isn't", x.visitTold(1, 8), 0);
        Ports.runTill(x, 107);
        CHECK.due("then it is", x.visitTold(1, 8), 64);
        Ports.runTill(x, 113);
        CHECK.causes("the other", x, 1, ICE, 12);
        CHECK.tells("leaves", x, 1, 6, 112);
    }

    private static void coldComesLater() {
        WingPort x = Ports.with(1, 1);
        x.visit(0, 0, 50, 999);
        Ports.runTill(x, 52);
        CHECK.tells("waits", x, 0, 5, 50);
        x.set(6, 1);
        x.set(4, 0);
        x.run(10);
        CHECK.tells("not iced, so it waits", x, 0, 5, 50);
        CHECK.causes("needs ice", x, 0, WORK, 2, ICE, 10);
        x.set(6, 0);
        x.run(1);
        CHECK.tells("not cold", x, 0, 6, 62);
        WingPort y = Ports.with(2, 1, 1);
        y.visit(0, 0, 40, 999);
        y.visit(0, 44, 140, 999);
        Ports.rule(y, "prio in * 100 + wait; sep 3; hold 0;");
        Ports.runTill(y, 50);
        CHECK.tells("the one that lands goes ahead", y, 1, 3, 46);
        CHECK.tells("the other behind it", y, 0, 6, 49);
        CHECK.causes("runway", y, 0, WORK, 4, RUNWAY, 5);
    }

    private static void coldComesSoon() {
        WingPort x = Ports.with(1, 1);
        x.visit(0, 0, 10, 999);
        Ports.runTill(x, 35);
        CHECK.tells("waits", x, 0, 5, 33);
        x.set(6, 1);
        x.run(1);
        CHECK.due("done at once, so it wasn't iced", x.visitTold(0, 8), 64);
    }

    private static void holdsForARunway() {
        WingPort x = Ports.with(1, 2, 1);
        Ports.rule(x, "prio 0; sep 9; hold 0;");
        x.visit(0, 0, 200, 999);
        x.visit(1, 0, 2, 999);
        x.run(7);
        CHECK.causes("stand 0 is free", x, 1, RUNWAY, 5);
    }

    /** What hold says of the one that waits, not of another. */
    private static void holdOfTheVisit() {
        WingPort x = Ports.with(9, 1, 3, 3);
        x.set(8, 2);
        Ports.rule(x, "prio 0; sep 0; hold kind * 5 + (prev + 1) * 100;");
        x.visit(1, 1, 300, 999);
        x.visit(2, 0, 24, 999);
        x.visit(3, 90, 300, 999);
        x.feed(0, 1, 5, 99);
        Ports.runTill(x, 34);
        CHECK.due("held for 10", x.visitTold(1, 8), 0);
        x.run(1);
        CHECK.due("and no longer", x.visitTold(1, 8), 32);
    }

    private static void fullPort() {
        WingPort x = Ports.with(2, 1, 1, 2, 2, 3, 3);
        x.set(8, 2);
        x.set(7, 9);
        for (int v = 0; v < 12; v++) {
            x.visit(v % 6, v * 5, v * 5 + 45, 60);
        }
        for (int f = 0; f < 16; f++) {
            x.feed(f % 12, (f + 1 + f / 12) % 12, 1 + f, 3);
        }
        CHECK.due("a plan in a full port", x.plan(1 << 10 | 1 << 11, 40), x.beside(40, 0));
        int late = x.beside(200, 0);
        int gone = x.beside(200, 1);
        int missed = x.beside(200, 3);
        x.run(200);
        CHECK.due("late ticks as beside", x.count(8), late);
        CHECK.due("missed as beside", x.count(9), missed);
        CHECK.due("all are gone", gone, 12);
        CHECK.due("no truck is busy", x.trucks(0, 1) + x.trucks(1, 1) + x.trucks(2, 1) + x.trucks(3, 1), 0);
        for (int s = 0; s < 6; s++) {
            CHECK.due("stand " + s + " is free", x.standTold(s, 1), -1);
        }
    }
}
