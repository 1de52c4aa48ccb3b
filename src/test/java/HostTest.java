/** Promises 29 to 33: the host's sheets, visits by sheets, and planes taken for others. */
public final class HostTest {
    private static final Check CHECK = new Check("host");
    private static final int NOTHING = -11, OUTSIDE = -12, UNLIKE = -13, BELOW = -14;

    public static void main(String[] args) {
        sheet();
        cell();
        narrowCells();
        narrowEdges();
        newRows();
        copy();
        copyOntoItself();
        copyRefuses();
        visits();
        visitsRefuse();
        visitsOutside();
        visitsAreFull();
        taken();
        CHECK.end();
    }

    private static void sheet() {
        WingPort x = new WingPort();
        CHECK.due("sheet(-1, 0, 1)", x.sheet(-1, 0, 1), WingPort.BAD);
        CHECK.due("sheet(4, 0, 1)", x.sheet(4, 0, 1), WingPort.BAD);
        CHECK.due("sheet(0, 3, 1)", x.sheet(0, 3, 1), WingPort.BAD);
        CHECK.due("sheet(0, -2, 1)", x.sheet(0, -2, 1), WingPort.BAD);
        CHECK.due("sheet(0, 0, 41)", x.sheet(0, 0, 41), WingPort.BAD);
        CHECK.due("sheet(4, 0, -1)", x.sheet(4, 0, -1), WingPort.BAD);
        CHECK.due("sheet(0, 3, -1)", x.sheet(0, 3, -1), WingPort.BAD);
        CHECK.due("sheet(0, 0, -1)", x.sheet(0, 0, -1), BELOW);
        CHECK.due("sheet(0, 2, MIN)", x.sheet(0, 2, Integer.MIN_VALUE), BELOW);
        CHECK.due("missing still", x.cell(0, 0, 1), NOTHING);
        for (int s = 0; s < 4; s++) {
            CHECK.due("sheet " + s, x.sheet(s, s % 3, 40), 1);
            CHECK.due("its last", x.cell(s, 39, 1), 1);
            CHECK.due("behind it", x.cell(s, 40, 1), OUTSIDE);
        }
        CHECK.due("a refused one changes nothing", x.sheet(0, 0, -1), BELOW);
        CHECK.due("it is as long", x.cell(0, 39, 1), 1);
        CHECK.due("of none", x.sheet(1, 1, 0), 1);
        CHECK.due("has no place 0", x.cell(1, 0, 1), OUTSIDE);
        CHECK.due("missing, whatever n", x.sheet(2, -1, 99), 1);
        CHECK.due("is missing", x.cell(2, 0, 1), NOTHING);
        CHECK.due("missing, n below 0", x.sheet(3, -1, -99), 1);
        CHECK.due("is missing, too", x.copy(3, 0, 3, 0, 0), NOTHING);
        for (int n : new int[] {Integer.MIN_VALUE, -1, 0, 40, 41, Integer.MAX_VALUE}) {
            x.sheet(2, 0, 1);
            CHECK.due("missing, n " + n, x.sheet(2, -1, n), 1);
            CHECK.due("is missing, n " + n, x.cell(2, 0, 1), NOTHING);
            CHECK.due("missing again", x.sheet(2, -1, n), 1);
        }
    }

    private static void cell() {
        WingPort x = new WingPort();
        CHECK.due("cell(4, 0, 1)", x.cell(4, 0, 1), WingPort.BAD);
        CHECK.due("cell(-1, 0, 1)", x.cell(-1, 0, 1), WingPort.BAD);
        CHECK.due("missing", x.cell(0, 99, 1), NOTHING);
        x.sheet(0, 2, 5);
        CHECK.due("cell(0, -1, 1)", x.cell(0, -1, 1), OUTSIDE);
        CHECK.due("cell(0, 5, 1)", x.cell(0, 5, 1), OUTSIDE);
        CHECK.due("cell(0, MAX, 1)", x.cell(0, Integer.MAX_VALUE, 1), OUTSIDE);
        CHECK.due("cell(0, 4, 1)", x.cell(0, 4, 1), 1);
        CHECK.due("cell(0, 0, MIN)", x.cell(0, 0, Integer.MIN_VALUE), 1);
    }

    /** Puts a visit's four numbers on a sheet. */
    private static void four(WingPort x, int s, int place, int... numbers) {
        for (int i = 0; i < numbers.length; i++) {
            x.cell(s, place + i, numbers[i]);
        }
    }

    private static void narrowCells() {
        WingPort x = new WingPort();
        x.sheet(0, 0, 8);
        four(x, 0, 0, 256 + 3, 512 + 100, 127, 1024 + 9);
        CHECK.due("the lowest 8 bits", x.visits(0, 0, 0, 1), 1);
        CHECK.due("kind", x.visitTold(0, 0), 3);
        CHECK.due("eta", x.visitTold(0, 4), 100);
        CHECK.due("etd", x.visitTold(0, 5), 127);
        CHECK.due("crew", x.visitTold(0, 10), 109);
        four(x, 0, 4, 3, 100, 128, 9);
        CHECK.due("128 is -128 as a byte", x.visits(0, 0, 4, 1), 0);
        x.sheet(1, 1, 8);
        four(x, 1, 0, 65536 + 1, -65536 + 300, 9999, 999);
        CHECK.due("the lowest 16 bits", x.visits(1, 1, 0, 1), 1);
        CHECK.due("eta of a short", x.visitTold(1, 4), 300);
        CHECK.due("etd of a short", x.visitTold(1, 5), 9999);
        four(x, 1, 4, 1, 300, 40000, 999);
        CHECK.due("40000 is below 0 as a short", x.visits(1, 1, 4, 1), 0);
        x.sheet(2, 2, 4);
        four(x, 2, 0, 65536 + 1, 300, 9999, 999);
        CHECK.due("an int has all its bits", x.visits(2, 2, 0, 1), 0);
    }

    /** Of bytes and shorts the lowest 8 and 16 bits: what wraps to a crew of 1 .. 999 is one. */
    private static void narrowEdges() {
        int[][] bytes = {{127, 127}, {128, 0}, {255, 0}, {256, 0}, {257, 1}, {383, 127}, {384, 0}, {-1, 0}, {-128, 0},
            {-129, 127}, {-255, 1}, {-256, 0}, {Integer.MAX_VALUE, 0}, {Integer.MIN_VALUE, 0},
            {Integer.MIN_VALUE + 1, 1}};
        int[][] shorts = {{999, 999}, {1000, 0}, {32767, 0}, {32768, 0}, {65535, 0}, {65536, 0}, {65537, 1},
            {66535, 999}, {66536, 0}, {-1, 0}, {-64537, 999}, {-64536, 0}, {-65535, 1}, {-65536, 0},
            {Integer.MAX_VALUE, 0}, {Integer.MIN_VALUE, 0}, {Integer.MIN_VALUE + 1, 1}};
        int[][] ints = {{999, 999}, {1000, 0}, {257, 257}, {65537, 0}, {-1, 0}, {Integer.MAX_VALUE, 0},
            {Integer.MIN_VALUE, 0}, {Integer.MIN_VALUE + 1, 0}};
        crews(0, bytes);
        crews(1, shorts);
        crews(2, ints);
    }

    private static void crews(int sort, int[][] rows) {
        for (int[] row : rows) {
            WingPort x = new WingPort();
            x.sheet(0, sort, 4);
            four(x, 0, 0, 0, 0, 1, row[0]);
            int comes = row[1] > 0 ? 1 : 0;
            CHECK.due("a crew of " + row[0] + " by sort " + sort, x.visits(0, sort, 0, 1), comes);
            CHECK.due("its limit", x.visitTold(0, 10), comes == 1 ? row[1] : WingPort.NONE);
        }
    }

    /** A SHEET becomes a row of n of a sort, all 0: whatever stood in each place. */
    private static void newRows() {
        for (int sort = 0; sort < 3; sort++) {
            for (int place = 0; place < 40; place++) {
                WingPort x = new WingPort();
                x.sheet(0, 2 - sort, 40);
                x.cell(0, place, 5);
                x.sheet(0, sort, 40);
                x.sheet(1, sort, 4);
                four(x, 1, 0, 3, 0, 1, 1);
                CHECK.due("place " + place, x.copy(0, place, 1, 0, 1), 1);
                CHECK.due("a visit by it", x.visits(1, sort, 0, 1), 1);
                CHECK.due("its kind", x.visitTold(0, 0), 0);
            }
        }
    }

    private static void copy() {
        WingPort x = new WingPort();
        x.sheet(0, 2, 10);
        x.sheet(1, 2, 6);
        four(x, 0, 3, 2, 50, 60, 70);
        CHECK.due("to another one", x.copy(0, 3, 1, 2, 4), 4);
        CHECK.due("they came", x.visits(1, 2, 2, 1), 1);
        CHECK.due("kind", x.visitTold(0, 0), 2);
        CHECK.due("etd", x.visitTold(0, 5), 60);
        CHECK.due("0, 0, 2, 50 is one, too", x.visits(1, 2, 0, 1), 1);
        CHECK.due("nothing came ahead of them", x.visitTold(1, 5), 2);
        CHECK.due("they are there still", x.visits(0, 2, 3, 1), 1);
        CHECK.due("none", x.copy(0, 10, 1, 6, 0), 0);
        CHECK.due("all", x.copy(1, 0, 0, 4, 6), 6);
        CHECK.due("all came", x.visits(0, 2, 6, 1), 1);
    }

    private static void copyOntoItself() {
        WingPort x = new WingPort();
        x.sheet(0, 1, 9);
        four(x, 0, 0, 1, 11, 21, 31);
        CHECK.due("up", x.copy(0, 0, 0, 1, 8), 8);
        CHECK.due("as they were", x.visits(0, 1, 1, 1), 1);
        CHECK.due("kind", x.visitTold(0, 0), 1);
        CHECK.due("eta", x.visitTold(0, 4), 11);
        CHECK.due("etd", x.visitTold(0, 5), 21);
        CHECK.due("limit", x.visitTold(0, 10), 42);
        CHECK.due("down", x.copy(0, 1, 0, 0, 8), 8);
        CHECK.due("as they were, down", x.visits(0, 1, 0, 1), 1);
        CHECK.due("etd, down", x.visitTold(1, 5), 21);
        CHECK.due("limit, down", x.visitTold(1, 10), 42);
        WingPort y = new WingPort();
        y.sheet(3, 0, 8);
        four(y, 3, 0, 5, 15, 25, 35);
        CHECK.due("onto the same place", y.copy(3, 0, 3, 0, 8), 8);
        CHECK.due("far", y.copy(3, 0, 3, 4, 4), 4);
        CHECK.due("twice", y.visits(3, 0, 0, 2), 2);
    }

    private static void copyRefuses() {
        WingPort x = new WingPort();
        x.sheet(0, 0, 5);
        x.sheet(1, 1, 5);
        x.sheet(2, 0, 3);
        CHECK.due("from no sheet", x.copy(4, 0, 0, 0, 1), WingPort.BAD);
        CHECK.due("to no sheet", x.copy(0, 0, -1, 0, 1), WingPort.BAD);
        CHECK.due("from a missing one to no sheet", x.copy(3, 0, 4, 0, 1), WingPort.BAD);
        CHECK.due("from a missing one", x.copy(3, 0, 0, 0, 1), NOTHING);
        CHECK.due("to a missing one", x.copy(0, 9, 3, 0, -1), NOTHING);
        CHECK.due("unlike sorts", x.copy(0, 0, 1, 0, 1), UNLIKE);
        CHECK.due("unlike sorts, outside", x.copy(0, 9, 1, 0, -1), UNLIKE);
        CHECK.due("n below 0", x.copy(0, 0, 2, 0, -1), OUTSIDE);
        CHECK.due("from below 0", x.copy(0, -1, 2, 0, 1), OUTSIDE);
        CHECK.due("to below 0", x.copy(0, 0, 2, -1, 1), OUTSIDE);
        CHECK.due("from beyond", x.copy(0, 3, 2, 0, 3), OUTSIDE);
        CHECK.due("to beyond", x.copy(0, 0, 2, 1, 3), OUTSIDE);
        CHECK.due("from far beyond", x.copy(0, Integer.MAX_VALUE, 2, 0, 2), OUTSIDE);
        CHECK.due("to far beyond", x.copy(0, 0, 2, Integer.MAX_VALUE, 2), OUTSIDE);
        CHECK.due("far too many", x.copy(0, 1, 2, 1, Integer.MAX_VALUE), OUTSIDE);
        CHECK.due("none from beyond", x.copy(0, 6, 2, 0, 0), OUTSIDE);
        CHECK.due("none to beyond", x.copy(0, 0, 2, 4, 0), OUTSIDE);
        CHECK.due("as many as can be", x.copy(0, 2, 2, 0, 3), 3);
        CHECK.due("all of the lesser one", x.copy(2, 0, 0, 2, 3), 3);
        CHECK.due("none at its end", x.copy(0, 5, 2, 3, 0), 0);
        CHECK.due("none at its beginning", x.copy(0, 0, 2, 0, 0), 0);
        CHECK.due("one, the last", x.copy(0, 4, 2, 2, 1), 1);
    }

    private static void visits() {
        WingPort x = new WingPort();
        x.sheet(1, 2, 17);
        four(x, 1, 1, 0, 10, 20, 30);
        four(x, 1, 5, 6, 10, 20, 30);
        four(x, 1, 9, 5, 11, 21, 31);
        four(x, 1, 13, 1, 12, 12, 32);
        four(x, 2, 0, 0, 10, 20, 30);
        x.sheet(2, 2, 4);
        four(x, 2, 0, 0, 10, 20, 30);
        x.sheet(2, 2, 4);
        CHECK.due("a new row is all 0", x.visits(2, 2, 0, 1), 0);
        x.cell(2, 2, 1);
        CHECK.due("but for what was put", x.visits(2, 2, 0, 1), 0);
        x.cell(2, 3, 1);
        CHECK.due("a visit of 0, 0, 1, 1", x.visits(2, 2, 0, 1), 1);
        CHECK.due("none", x.visits(1, 2, 1, 0), 0);
        CHECK.due("no more visits", x.count(1), 1);
        CHECK.due("the good ones come", x.visits(1, 2, 1, 4), 2);
        CHECK.due("two visits more", x.count(1), 3);
        CHECK.due("the first", x.visitTold(1, 0), 0);
        CHECK.due("the other", x.visitTold(2, 0), 5);
        CHECK.due("its limit", x.visitTold(2, 10), 42);
        x.run(12);
        CHECK.due("too late", x.visits(1, 2, 1, 4), 0);
        CHECK.due("none, from anywhere", x.visits(1, 2, -5, 0), 0);
    }

    private static void visitsRefuse() {
        WingPort x = new WingPort();
        x.sheet(0, 0, 40);
        CHECK.due("no sheet", x.visits(4, 0, 0, 1), WingPort.BAD);
        CHECK.due("no sheet below", x.visits(-1, 0, 0, 1), WingPort.BAD);
        CHECK.due("no sort", x.visits(0, 3, 0, 1), WingPort.BAD);
        CHECK.due("missing is no sort", x.visits(1, -1, 0, 1), WingPort.BAD);
        CHECK.due("n below 0", x.visits(0, 0, 0, -1), WingPort.BAD);
        CHECK.due("n above 10", x.visits(0, 0, 0, 11), WingPort.BAD);
        CHECK.due("missing, n above 10", x.visits(1, 0, 0, 11), WingPort.BAD);
        CHECK.due("missing", x.visits(1, 0, 99, 1), NOTHING);
        CHECK.due("of another sort", x.visits(0, 1, 0, 1), UNLIKE);
        CHECK.due("of another sort, outside", x.visits(0, 1, 99, 1), UNLIKE);
        CHECK.due("10 of them", x.visits(0, 0, 0, 10), 0);
        CHECK.due("the last of them", x.visits(0, 0, 36, 1), 0);
        CHECK.due("one place on", x.visits(0, 0, 37, 1), OUTSIDE);
        CHECK.due("10 of them, one place on", x.visits(0, 0, 1, 10), OUTSIDE);
        CHECK.due("9 of them, four places on", x.visits(0, 0, 4, 9), 0);
        CHECK.due("10 of them, four places on", x.visits(0, 0, 4, 10), OUTSIDE);
    }

    private static void visitsOutside() {
        WingPort x = new WingPort();
        x.sheet(0, 2, 11);
        four(x, 0, 0, 0, 10, 20, 30);
        four(x, 0, 4, 1, 10, 20, 30);
        four(x, 0, 8, 2, 10, 20);
        CHECK.due("the third isn't whole", x.visits(0, 2, 0, 3), OUTSIDE);
        CHECK.due("what stood ahead came", x.count(1), 2);
        CHECK.due("from below", x.visits(0, 2, -1, 1), OUTSIDE);
        CHECK.due("from beyond", x.visits(0, 2, 11, 1), OUTSIDE);
        CHECK.due("from far beyond", x.visits(0, 2, Integer.MAX_VALUE, 10), OUTSIDE);
        CHECK.due("from far below", x.visits(0, 2, Integer.MIN_VALUE, 10), OUTSIDE);
        CHECK.due("none came", x.count(1), 2);
        CHECK.due("none of an empty one", x.sheet(1, 1, 0) + x.visits(1, 1, 0, 0), 1);
        CHECK.due("one of an empty one", x.visits(1, 1, 0, 1), OUTSIDE);
    }

    private static void visitsAreFull() {
        WingPort x = new WingPort();
        x.sheet(0, 0, 40);
        for (int k = 0; k < 10; k++) {
            four(x, 0, k * 4, k % 6, 10 + k, 100, 9);
        }
        CHECK.due("ten", x.visits(0, 0, 0, 10), 10);
        CHECK.due("two of ten", x.visits(0, 0, 0, 10), 2);
        CHECK.due("the twelfth", x.visitTold(11, 4), 11);
        CHECK.due("none of ten", x.visits(0, 0, 0, 10), 0);
        CHECK.due("outside, though full", x.visits(0, 0, 1, 10), OUTSIDE);
    }

    private static void taken() {
        WingPort x = new WingPort();
        CHECK.due("no visit", x.taken(0, 0), NOTHING);
        CHECK.due("no visit, no kind", x.taken(0, 6), WingPort.BAD);
        for (int kind = 0; kind < 6; kind++) {
            x.visit(kind, 1, 2, 3);
        }
        int[][] due = {{1, -13, -13, -13, -13, -13}, {2, 2, -13, -13, -13, -13}, {1, -13, 1, -13, -13, -13},
            {3, 3, -13, 3, -13, -13}, {1, -13, 1, -13, 1, -13}, {3, 3, -13, 3, -13, 3}};
        for (int v = 0; v < 6; v++) {
            for (int kind = 0; kind < 6; kind++) {
                CHECK.due("taken(" + v + ", " + kind + ")", x.taken(v, kind), due[v][kind]);
            }
        }
        WingPort y = new WingPort();
        for (int v = 0; v < 12; v++) {
            y.visit(5 - v % 6, 1, 2, 3);
        }
        for (int v = 0; v < 12; v++) {
            for (int kind = 0; kind < 6; kind++) {
                int of = 5 - v % 6;
                CHECK.due("visit " + v + " of kind " + of + " taken for " + kind, y.taken(v, kind), due[of][kind]);
            }
        }
        CHECK.due("taken(6, 0)", x.taken(6, 0), NOTHING);
        CHECK.due("taken(-1, 0)", x.taken(-1, 0), NOTHING);
        CHECK.due("taken(0, 6)", x.taken(0, 6), WingPort.BAD);
        CHECK.due("taken(0, -1)", x.taken(0, -1), WingPort.BAD);
        CHECK.due("UNLIKE", x.taken(0, 1), UNLIKE);
    }
}
