/** Promises 1 to 5: a new object, sheet, set, copy, drop. */
public final class SheetTest {
    private static final int MIN = Integer.MIN_VALUE, MAX = Integer.MAX_VALUE;

    public static void main(String[] args) {
        newObject();
        sheet();
        set();
        copy();
        copyRefused();
        drop();
        Due.end();
    }

    private static void newObject() {
        HollowPress x = new HollowPress();
        for (int what = 0; what <= 6; what++) Due.is("count " + what, x.count(what), 0);
        for (int s = 0; s < 8; s++) Due.is("drop " + s, x.drop(s), Due.NULL);
        for (int p = 0; p < 10; p++) Due.is("kind " + p, x.kind(p), Due.NULL);
        Due.is("strip", x.strip(), 0);
        Due.is("trace", x.trace(0), Due.NONE);
        HollowPress y = new HollowPress();
        Due.is("status", y.status(), 0);
        Due.is("sheet", y.sheet(0, 0, 1), 1);
        Due.is("another object has its own sheets", x.count(0), 0);
    }

    private static void sheet() {
        HollowPress x = new HollowPress();
        for (int lane = 0; lane < 3; lane++) {
            Due.is("sheet 0 items", x.sheet(0, lane, 0), 0);
            Due.is("sheet 144 items", x.sheet(7, lane, 144), 144);
            Due.is("last item", x.set(7, 143, 5), 5);
            Due.is("none behind", x.set(7, 144, 5), Due.PLACE);
        }
        Due.is("two", x.count(0), 2);
        Due.is("sheet -1", x.sheet(-1, 0, 1), Due.BAD);
        Due.is("sheet 8", x.sheet(8, 0, 1), Due.BAD);
        Due.is("sheet MIN", x.sheet(MIN, 0, 1), Due.BAD);
        Due.is("sheet MAX", x.sheet(MAX, 0, 1), Due.BAD);
        Due.is("lane -1", x.sheet(0, -1, 1), Due.BAD);
        Due.is("lane 3", x.sheet(0, 3, 1), Due.BAD);
        Due.is("n 145", x.sheet(0, 0, 145), Due.BAD);
        Due.is("n MAX", x.sheet(0, 0, MAX), Due.BAD);
        Due.is("n -1", x.sheet(0, 0, -1), Due.SIZE);
        Due.is("status", x.status(), 4);
        Due.is("n MIN", x.sheet(0, 0, MIN), Due.SIZE);
        Due.is("bad goes ahead of size", x.sheet(8, 0, -1), Due.BAD);
        Due.is("bad lane goes ahead of size", x.sheet(0, 3, -1), Due.BAD);
        Due.is("refused changes nothing", x.drop(0), 0);
        Due.is("found changes nothing", x.sheet(7, 0, -1), Due.SIZE);
        Due.is("found changes nothing", x.drop(7), 144);
        newItemsAreZero();
    }

    private static void newItemsAreZero() {
        HollowPress x = new HollowPress();
        Due.fill(x, 0, 7, 7);
        Due.is("again", x.sheet(0, 1, 2), 2);
        Due.is("all are 0", x.part(0, 0, 0, 2, 1), Due.BAD);
        Due.is("zeroes are layers", x.layers(0, 0, 0, 2, 0), 4);
        Due.is("greatest", x.ask(0, 1), 0);
        Due.is("other length", x.sheet(0, 2, 1), 1);
        Due.is("lane is new, too", x.set(0, 0, 1L << 40), 1L << 40);
        Due.is("length is new, too", x.set(0, 1, 0), Due.PLACE);
    }

    private static void set() {
        HollowPress x = new HollowPress();
        Due.is("missing", x.set(0, 0, 1), Due.NULL);
        Due.is("status", x.status(), 1);
        Due.is("missing goes ahead of place", x.set(0, -1, 1), Due.NULL);
        for (int lane = 0; lane < 3; lane++) x.sheet(lane, lane, 2);
        long[] values = {0, 1, 127, 128, 255, 256, 300, -1, -128, -129, MAX, MAX + 1L, MIN, MIN - 1L,
            1L << 32, (1L << 32) + 200, Long.MAX_VALUE, Long.MIN_VALUE};
        for (long v : values) {
            Due.is("byte " + v, x.set(0, 1, v), (byte) v);
            Due.is("int " + v, x.set(1, 1, v), (int) v);
            Due.is("long " + v, x.set(2, 1, v), v);
        }
        Due.is("300 as a byte", x.set(0, 0, 300), 44);
        Due.is("200 as a byte", x.set(0, 0, 200), -56);
        Due.is("2 to the 31st as an int", x.set(1, 0, 2147483648L), -2147483648L);
        Due.is("status", x.status(), 0);
        int[] wrongPlaces = {-1, 2, 3, 144, MIN, MAX};
        for (int i : wrongPlaces) {
            Due.is("set at " + i, x.set(0, i, 1), Due.PLACE);
            Due.is("status", x.status(), 2);
        }
        int[] wrongSheets = {-1, 8, MIN, MAX};
        for (int s : wrongSheets) Due.is("set on " + s, x.set(s, 0, 1), Due.BAD);
        Due.is("status stays", x.status(), 2);
        keepsWhatWasSet();
    }

    private static void keepsWhatWasSet() {
        HollowPress x = new HollowPress();
        Due.fill(x, 0, 1, 2, 3, 4);
        Due.is("set 1", x.set(0, 1, 10004), 10004);
        Due.is("one of them is too warm", x.layers(0, 0, 0, 4, 0), Due.BAD);
        Due.is("not the others", x.layers(0, 0, 2, 2, 0), 4);
        Due.is("set 1", x.set(0, 1, 9), 9);
        Due.is("now all are", x.layers(0, 0, 0, 4, 0), 4);
        Due.row("warmths", warmths(x, 0, 4), 1, 9, 3, 4);
    }

    private static void copy() {
        HollowPress x = new HollowPress();
        Due.fill(x, 0, 1, 2, 3, 4, 5);
        Due.fill(x, 1, 11, 12, 13, 14, 15);
        Due.is("copy", x.copy(0, 1, 1, 2, 2), 2);
        Due.row("to", items(x, 1, 5), 11, 12, 2, 3, 15);
        Due.row("from", items(x, 0, 5), 1, 2, 3, 4, 5);
        Due.is("copy nothing", x.copy(0, 5, 1, 5, 0), 0);
        Due.is("copy all", x.copy(0, 0, 1, 0, 5), 5);
        Due.row("to", items(x, 1, 5), 1, 2, 3, 4, 5);
        Due.is("forwards over itself", x.copy(0, 0, 0, 1, 4), 4);
        Due.row("as they were ahead", items(x, 0, 5), 1, 1, 2, 3, 4);
        Due.is("backwards over itself", x.copy(1, 1, 1, 0, 4), 4);
        Due.row("as they were ahead", items(x, 1, 5), 2, 3, 4, 5, 5);
        for (int lane = 0; lane < 3; lane++) {
            x.sheet(2, lane, 3);
            x.sheet(3, lane, 3);
            x.set(2, 0, 77);
            Due.is("copy lane " + lane, x.copy(2, 0, 3, 1, 1), 1);
            Due.row("copied", items(x, 3, 3), 0, 77, 0);
        }
        Due.is("status", x.status(), 0);
    }

    private static void copyRefused() {
        HollowPress x = new HollowPress();
        Due.fill(x, 0, 1, 2, 3);
        Due.fill(x, 1, 4, 5);
        x.sheet(2, 2, 3);
        x.sheet(3, 0, 3);
        int[] wrongSheets = {-1, 8, MIN, MAX};
        for (int s : wrongSheets) {
            Due.is("from " + s, x.copy(s, 0, 0, 0, 0), Due.BAD);
            Due.is("to " + s, x.copy(0, 0, s, 0, 0), Due.BAD);
            Due.is("bad goes ahead", x.copy(7, -1, s, 0, 0), Due.BAD);
        }
        Due.is("missing from", x.copy(7, 0, 0, 0, 1), Due.NULL);
        Due.is("missing to", x.copy(0, 0, 7, 0, 1), Due.NULL);
        Due.is("missing goes ahead of place", x.copy(0, -1, 7, 0, 1), Due.NULL);
        Due.is("status", x.status(), 1);
        Due.is("two lanes", x.copy(0, 0, 2, 0, 1), Due.STORE);
        Due.is("two lanes", x.copy(3, 0, 0, 0, 0), Due.STORE);
        Due.is("lanes go ahead of place", x.copy(0, -1, 2, 9, -3), Due.STORE);
        Due.is("status", x.status(), 5);
        int[][] wrong = {{-1, 0, 1}, {0, -1, 1}, {0, 0, -1}, {0, 0, 3}, {3, 0, 1}, {4, 0, 0}, {0, 3, 0}, {0, 2, 1},
            {2, 0, 2}, {0, 1, 2}, {MAX, 0, 1}, {0, MAX, 1}, {1, 1, MAX}, {MAX, MAX, MAX}, {MIN, 0, 0}, {0, 0, MIN},
            {3, 0, MIN}, {MAX, 0, MIN}};
        for (int[] w : wrong) {
            Due.is("copy " + w[0] + " " + w[1] + " " + w[2], x.copy(0, w[0], 1, w[1], w[2]), Due.PLACE);
            Due.is("status", x.status(), 2);
        }
        Due.is("edges", x.copy(0, 3, 1, 2, 0), 0);
        Due.row("nothing changed", items(x, 0, 3), 1, 2, 3);
        Due.row("nothing changed", items(x, 1, 2), 4, 5);
    }

    private static void drop() {
        HollowPress x = new HollowPress();
        Due.fill(x, 0, 1, 2, 3);
        x.sheet(1, 0, 0);
        Due.is("count", x.count(0), 2);
        Due.is("drop", x.drop(0), 3);
        Due.is("count", x.count(0), 1);
        Due.is("drop none", x.drop(1), 0);
        Due.is("again", x.drop(0), Due.NULL);
        Due.is("status", x.status(), 1);
        Due.is("set", x.set(0, 0, 1), Due.NULL);
        int[] wrong = {-1, 8, MIN, MAX};
        for (int s : wrong) Due.is("drop " + s, x.drop(s), Due.BAD);
    }

    /** The items of a sheet of small numbers, read through layers at place 9. */
    private static long[] items(HollowPress x, int sheet, int n) {
        Due.is("layers", x.layers(9, sheet, 0, n, 0), 4);
        long[] row = warmths(x, 9, n);
        x.clear(9);
        return row;
    }

    private static long[] warmths(HollowPress x, int place, int n) {
        long[] row = new long[n];
        for (int i = 0; i < n; i++) row[i] = x.warmth(place, i);
        return row;
    }
}
