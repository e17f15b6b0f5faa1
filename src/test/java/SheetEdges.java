/** Promises 1 to 5, and what the terms say of SHEETS. */
final class SheetEdges {
    private SheetEdges() {
    }

    static void run() {
        newObject();
        sheetsAtFirst();
        sheet();
        sheetRefused();
        set();
        setKeeps();
        setRefused();
        copy();
        copyOntoItself();
        copyRefused();
        copyBeyond();
        drop();
    }

    private static void newObject() {
        Edge.of(1, "No SHEETS, an empty SHELF, no BRANCHES, PRESSES, JOBS");
        HollowPress x = new HollowPress();
        for (int what = 0; what <= 6; what++) Edge.is("count " + what, x.count(what), 0);
        for (int s = 0; s < 8; s++) Edge.is("drop " + s, x.drop(s), Due.NULL);
        for (int p = 0; p < 10; p++) Edge.is("kind " + p, x.kind(p), Due.NULL);
        Edge.is("no branch", x.size(0), Due.BAD);
        Edge.is("no branch to strip", x.strip(), 0);
        Edge.is("no press", x.load(0, 0), Due.BAD);
        Edge.is("no job is left", x.plan(), 0);
        Edge.is("the first branch", x.branch(Due.NONE, 1, 1), 0);
        Edge.is("the first press", x.press(0), 0);
        Edge.is("the first job", x.job(0, 0, 1), 0);
        Edge.is("another object has none", new HollowPress().count(4), 0);
    }

    private static void sheetsAtFirst() {
        Edge.of(0, "SHEETS 0 .. 7 are missing (at first), or have a LANE (0 bytes, 1 ints, 2 longs) and 0 to 144 ITEMS, 0 at first");
        HollowPress x = new HollowPress();
        for (int s = 0; s <= 7; s++) {
            Edge.is("missing " + s, x.set(s, 0, 1), Due.NULL);
            Edge.is("no items", x.sheet(s, s % 3, 0), 0);
            Edge.is("none of them", x.set(s, 0, 1), Due.PLACE);
            Edge.is("144 items", x.sheet(s, s % 3, 144), 144);
        }
        Edge.is("eight", x.count(0), 8);
        for (int i = 0; i + 20 <= 144; i += 20) {
            Edge.is("0 at first from " + i, x.layers(0, 7, i, 20, 0), 4);
            Edge.is("the greatest", x.ask(0, 1), 0);
        }
        Edge.is("no cell at first", x.part(0, 7, 0, 12, 12), Due.BAD);
        Edge.is("the greatest byte", x.set(0, 143, 127), 127);
        Edge.is("one more", x.set(0, 143, 128), -128);
        Edge.is("the greatest int", x.set(1, 143, Edge.MAX), Edge.MAX);
        Edge.is("one more", x.set(1, 143, Edge.MAX + 1L), Edge.MIN);
        Edge.is("the greatest long", x.set(2, 143, Long.MAX_VALUE), Long.MAX_VALUE);
    }

    private static void sheet() {
        Edge.of(2, "A SHEET of a LANE with n ITEMS, in place of what is there: n");
        HollowPress x = new HollowPress();
        for (int lane = 0; lane <= 2; lane++) {
            for (int n : new int[] {0, 1, 143, 144}) {
                Edge.is("n " + n, x.sheet(3, lane, n), n);
                Edge.is("behind the last", x.set(3, n, 1), Due.PLACE);
                Edge.is("the last", x.set(3, n - 1, 1), n == 0 ? Due.PLACE : 1);
            }
        }
        Edge.is("one sheet", x.count(0), 1);
        fill(x, 3, 5, 6);
        Edge.is("anew", x.sheet(3, 1, 2), 2);
        items(x, 3, 0, 0);
        Edge.is("another lane", x.sheet(3, 0, 2), 2);
        Edge.is("a byte", x.set(3, 0, 256 + 7), 7);
        Edge.is("a sheet of none in its place", x.sheet(3, 0, 0), 0);
        Edge.is("it had none", x.drop(3), 0);
    }

    private static void sheetRefused() {
        HollowPress x = new HollowPress();
        Edge.of(2, "BAD: SHEET, LANE, n above 144");
        fill(x, 0, 5, 6);
        for (int s : Edge.outside(0, 7)) Edge.is("sheet " + s, x.sheet(s, 0, 1), Due.BAD);
        for (int lane : Edge.outside(0, 2)) Edge.is("lane " + lane, x.sheet(0, lane, 1), Due.BAD);
        for (int n : new int[] {145, 146, 256, 65536, Edge.MAX}) Edge.is("n " + n, x.sheet(0, 1, n), Due.BAD);
        items(x, 0, 5, 6);
        Edge.of(2, "SIZE");
        for (int n : new int[] {-1, -2, -144, -145, Due.NONE, Edge.MIN, Edge.MIN + 1}) {
            Edge.is("n " + n, x.sheet(0, 1, n), Due.SIZE);
            Edge.is("status", x.status(), 4);
            Edge.is("of no sheet", x.sheet(8, 1, n), Due.BAD);
            Edge.is("of no lane", x.sheet(0, 3, n), Due.BAD);
        }
        Edge.is("a missing one stays so", x.sheet(1, 0, -1), Due.SIZE);
        Edge.is("one sheet", x.count(0), 1);
        items(x, 0, 5, 6);
    }

    private static void set() {
        Edge.of(3, "ITEM i becomes v, its lowest bits, as many as the LANE has: what it is then");
        HollowPress x = new HollowPress();
        for (int lane = 0; lane <= 2; lane++) x.sheet(lane, lane, 2);
        long[][] bytes = {{127, 127}, {128, -128}, {255, -1}, {256, 0}, {-128, -128}, {-129, 127}, {383, 127},
            {1L << 32, 0}, {Long.MAX_VALUE, -1}, {Long.MIN_VALUE, 0}, {-1, -1}};
        for (long[] v : bytes) Edge.is("byte " + v[0], x.set(0, 1, v[0]), v[1]);
        long[][] ints = {{2147483647L, 2147483647L}, {2147483648L, -2147483648L}, {4294967295L, -1}, {4294967296L, 0},
            {-2147483648L, -2147483648L}, {-2147483649L, 2147483647L}, {Long.MAX_VALUE, -1}, {Long.MIN_VALUE, 0}, {128, 128}};
        for (long[] v : ints) Edge.is("int " + v[0], x.set(1, 1, v[0]), v[1]);
        long[] longs = {Long.MAX_VALUE, Long.MIN_VALUE, 2147483648L, -2147483649L, 256, -1, 0, Due.BAD, Due.NULL};
        for (long v : longs) {
            x.kind(0);
            Edge.is("long " + v, x.set(2, 1, v), v);
            Edge.is("what looks like a refusal is none", x.status(), 0);
        }
    }

    private static void setKeeps() {
        Edge.of(3, "ITEM i becomes v, its lowest bits");
        HollowPress x = new HollowPress();
        x.sheet(0, 0, 2);
        x.sheet(1, 1, 2);
        x.sheet(2, 2, 2);
        x.set(0, 0, 256 + 7);
        x.set(1, 1, (1L << 32) + 9);
        x.set(2, 0, (1L << 32) + 7);
        items(x, 0, 7, 0);
        items(x, 1, 0, 9);
        Edge.is("a long is not cut to an int", x.part(0, 2, 0, 1, 1), Due.BAD);
        Edge.is("nor is it for layers", x.layers(0, 2, 0, 2, 0), Due.BAD);
        x.set(2, 0, 8);
        items(x, 2, 8, 0);
        x.set(0, 0, 128);
        Edge.is("a byte of 128 is below 0", x.layers(0, 0, 0, 2, 0), Due.BAD);
    }

    private static void setRefused() {
        HollowPress x = new HollowPress();
        Edge.of(3, "BAD: SHEET");
        for (int s : Edge.outside(0, 7)) Edge.is("set on " + s, x.set(s, 0, 1), Due.BAD);
        Edge.of(3, "NULL");
        for (int s = 0; s <= 7; s++) Edge.is("set on " + s, x.set(s, 0, 1), Due.NULL);
        Edge.is("ahead of the place", x.set(0, -1, 1), Due.NULL);
        Edge.of(3, "PLACE");
        fill(x, 0, 5, 6);
        for (int i : Edge.outside(0, 1)) Edge.is("set at " + i, x.set(0, i, 1), Due.PLACE);
        x.sheet(1, 2, 144);
        for (int i : Edge.outside(0, 143)) Edge.is("set at " + i, x.set(1, i, 1), Due.PLACE);
        x.sheet(2, 0, 0);
        for (int i : new int[] {0, 1, -1}) Edge.is("set of none at " + i, x.set(2, i, 1), Due.PLACE);
        items(x, 0, 5, 6);
    }

    private static void copy() {
        Edge.of(4, "n ITEMS of a from i on come to b from j on");
        HollowPress x = new HollowPress();
        fill(x, 0, 1, 2, 3, 4);
        fill(x, 1, 11, 12, 13);
        Edge.is("none at the ends", x.copy(0, 4, 1, 3, 0), 0);
        Edge.is("none at the starts", x.copy(0, 0, 1, 0, 0), 0);
        items(x, 1, 11, 12, 13);
        Edge.is("the last one", x.copy(0, 3, 1, 2, 1), 1);
        items(x, 1, 11, 12, 4);
        Edge.is("as many as there is room for", x.copy(0, 0, 1, 0, 3), 3);
        items(x, 1, 1, 2, 3);
        items(x, 0, 1, 2, 3, 4);
        x.sheet(2, 2, 144);
        x.sheet(3, 2, 144);
        x.set(2, 0, Long.MAX_VALUE);
        x.set(2, 143, 7);
        Edge.is("all", x.copy(2, 0, 3, 0, 144), 144);
        Edge.is("whole longs", x.part(0, 3, 0, 1, 1), Due.BAD);
        Edge.is("the last one, too", x.part(0, 3, 143, 1, 1), 3);
        x.sheet(4, 0, 0);
        x.sheet(5, 0, 0);
        Edge.is("none of none", x.copy(4, 0, 5, 0, 0), 0);
    }

    private static void copyOntoItself() {
        Edge.of(4, "as they were ahead: n");
        HollowPress x = new HollowPress();
        for (int lane = 0; lane <= 2; lane++) {
            x.sheet(0, lane, 4);
            for (int i = 0; i < 4; i++) x.set(0, i, i + 1);
            Edge.is("forwards", x.copy(0, 0, 0, 1, 3), 3);
            items(x, 0, 1, 1, 2, 3);
            Edge.is("backwards", x.copy(0, 1, 0, 0, 3), 3);
            items(x, 0, 1, 2, 3, 3);
            Edge.is("in its own place", x.copy(0, 0, 0, 0, 4), 4);
            items(x, 0, 1, 2, 3, 3);
        }
    }

    private static void copyRefused() {
        HollowPress x = new HollowPress();
        fill(x, 0, 1, 2, 3);
        Edge.of(4, "BAD: SHEETS");
        for (int s : Edge.outside(0, 7)) {
            Edge.is("from " + s, x.copy(s, 0, 0, 0, 1), Due.BAD);
            Edge.is("to " + s, x.copy(0, 0, s, 0, 1), Due.BAD);
            Edge.is("from a missing one to " + s, x.copy(7, 0, s, 0, 1), Due.BAD);
        }
        Edge.of(4, "NULL");
        Edge.is("from", x.copy(7, 0, 0, 0, 1), Due.NULL);
        Edge.is("to", x.copy(0, 0, 7, 0, 1), Due.NULL);
        Edge.is("both", x.copy(7, 0, 7, 0, 0), Due.NULL);
        Edge.is("ahead of the place", x.copy(7, -1, 0, 9, -1), Due.NULL);
        Edge.is("ahead of the place", x.copy(0, -1, 7, 9, -1), Due.NULL);
        Edge.of(4, "STORE");
        x.sheet(1, 0, 3);
        x.sheet(2, 2, 3);
        int[][] unlike = {{0, 1}, {1, 0}, {0, 2}, {2, 0}, {1, 2}, {2, 1}};
        for (int[] u : unlike) {
            Edge.is("one", x.copy(u[0], 0, u[1], 0, 1), Due.STORE);
            Edge.is("none", x.copy(u[0], 0, u[1], 0, 0), Due.STORE);
            Edge.is("ahead of the place", x.copy(u[0], 4, u[1], -1, -1), Due.STORE);
        }
        items(x, 0, 1, 2, 3);
    }

    private static void copyBeyond() {
        Edge.of(4, "PLACE (i, j, n below 0, or beyond an end)");
        HollowPress x = new HollowPress();
        fill(x, 0, 1, 2, 3);
        fill(x, 1, 4, 5);
        int[][] wrong = {{-1, 0, 1}, {0, -1, 1}, {0, 0, -1}, {-1, 0, 0}, {0, -1, 0}, {3, 0, 1}, {0, 2, 1}, {2, 0, 2},
            {0, 1, 2}, {0, 0, 3}, {4, 0, 0}, {0, 3, 0}, {3, 2, 1}, {Edge.MAX, 0, 1}, {0, Edge.MAX, 1}, {1, 0, Edge.MAX},
            {0, 1, Edge.MAX}, {Edge.MAX, Edge.MAX, Edge.MAX}, {Edge.MIN, 0, 0}, {0, Edge.MIN, 0}, {0, 0, Edge.MIN},
            {Edge.MIN, Edge.MIN, Edge.MIN}, {Edge.MAX, 0, Edge.MIN}, {3, 0, -3}, {1, 1, -1}};
        for (int[] w : wrong) {
            Edge.is("from " + w[0] + " to " + w[1] + " of " + w[2], x.copy(0, w[0], 1, w[1], w[2]), Due.PLACE);
        }
        items(x, 0, 1, 2, 3);
        items(x, 1, 4, 5);
    }

    private static void drop() {
        Edge.of(5, "A SHEET is missing from now on: how many ITEMS it had");
        HollowPress x = new HollowPress();
        for (int n : new int[] {0, 1, 144}) {
            x.sheet(7, 2, n);
            Edge.is("n " + n, x.drop(7), n);
            Edge.is("none is there", x.count(0), 0);
            Edge.is("set", x.set(7, 0, 1), Due.NULL);
        }
        Edge.of(5, "BAD");
        for (int s : Edge.outside(0, 7)) Edge.is("drop " + s, x.drop(s), Due.BAD);
        Edge.of(5, "NULL");
        for (int s = 0; s <= 7; s++) Edge.is("drop " + s, x.drop(s), Due.NULL);
        x.sheet(0, 0, 3);
        Edge.is("drop", x.drop(0), 3);
        Edge.is("twice", x.drop(0), Due.NULL);
    }

    /** A sheet of ints, without checks of the calls. */
    static void fill(HollowPress x, int sheet, long... items) {
        x.sheet(sheet, 1, items.length);
        for (int i = 0; i < items.length; i++) x.set(sheet, i, items[i]);
    }

    /** What a sheet holds, read through layers at place 9. */
    static void items(HollowPress x, int sheet, long... due) {
        Edge.is("layers", x.layers(9, sheet, 0, due.length, 0), 4);
        for (int i = 0; i < due.length; i++) Edge.is("item " + i, x.warmth(9, i), due[i]);
        x.clear(9);
    }
}
