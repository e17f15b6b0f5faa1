/** Counts the answers that are not the ones that are due, and ends a test. */
final class Due {
    static final int NONE = -1000000, BAD = -1000001, STATE = -1000002, FULL = -1000003;
    static final int NULL = -1000011, PLACE = -1000012, KIND = -1000013, SIZE = -1000014, STORE = -1000015;

    private static int wrong = 0;
    private static int asked = 0;

    private Due() {
    }

    static void is(String call, long got, long want) {
        asked++;
        if (got == want) return;
        wrong++;
        System.out.println(call + " answered " + got + ", due is " + want);
    }

    /** A row of answers, asked for one after the other. */
    static void row(String call, long[] got, long... want) {
        is(call + " length", got.length, want.length);
        for (int i = 0; i < Math.min(got.length, want.length); i++) is(call + " [" + i + "]", got[i], want[i]);
    }

    /** Sets the items of a new sheet of ints. */
    static void fill(HollowPress x, int sheet, long... items) {
        is("sheet", x.sheet(sheet, 1, items.length), items.length);
        for (int i = 0; i < items.length; i++) is("set", x.set(sheet, i, items[i]), items[i]);
    }

    /** A part at a place, through sheet 7, which is missing behind it. */
    static int part(HollowPress x, int place, int w, int h, long... items) {
        fill(x, 7, items);
        int kind = x.part(place, 7, 0, w, h);
        is("drop", x.drop(7), items.length);
        return kind;
    }

    /** Layers at a place, through sheet 7, which is missing behind it. */
    static int layers(HollowPress x, int place, int wall, long... items) {
        fill(x, 7, items);
        int kind = x.layers(place, 7, 0, items.length, wall);
        is("drop", x.drop(7), items.length);
        return kind;
    }

    static void end() {
        System.out.println(wrong == 0 ? asked + " answers are as due" : wrong + " answers are not as due");
        if (wrong != 0) System.exit(1);
    }
}
