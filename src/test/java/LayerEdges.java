/** Promises 27 and 28, and what the terms say of a BEAT. */
final class LayerEdges {
    private static final int PART = 8;

    private LayerEdges() {
    }

    static void run() {
        beatOnce();
        given();
        beat();
        beatRefused();
        warmth();
        warmthRefused();
    }

    /** Place 8 has a part; 9 is empty. */
    private static HollowPress withPart() {
        HollowPress x = new HollowPress();
        Due.part(x, PART, 1, 1, 1);
        return x;
    }

    private static void beatOnce() {
        Edge.of(0, "A BEAT: between each two beside one another, and between the outer ones and the WALLS, "
            + "all by what they were ahead of it, goes (warmth of the one less that of the other) times a number 1 to 5, "
            + "by 16, cut towards 0, from the first to the second");
        HollowPress x = withPart();
        once(x, 0, 1, new long[] {1600, 0}, 1400, 100);
        once(x, 0, 1, new long[] {0, 1600}, 100, 1400);
        once(x, 1601, 1, new long[] {1, 1}, 101, 101);
        once(x, 0, 1, new long[] {0, 1600, 0}, 100, 1400, 100);
        once(x, 0, 1, new long[] {15, 0}, 15, 0);
        once(x, 15, 1, new long[] {0, 15}, 0, 15);
        once(x, 0, 1, new long[] {16, 16}, 15, 15);
        once(x, 32, 1, new long[] {1, 1}, 2, 2);
        once(x, 0, 5, new long[] {3, 3}, 3, 3);
        once(x, 0, 5, new long[] {4, 4}, 3, 3);
        once(x, 5, 5, new long[] {1, 1}, 2, 2);
        once(x, 0, 5, new long[] {6, 0}, 4, 1);
        once(x, 0, 5, new long[] {10000, 10000}, 6875, 6875);
        once(x, 10000, 5, new long[] {16, 16}, 16 + 3120, 16 + 3120);
        once(x, 10000, 5, new long[] {0, 10000}, 6250, 6875);
        for (int number = 1; number <= 5; number++) {
            once(x, 0, number, new long[] {1600, 1600}, 1600 - 100 * number, 1600 - 100 * number);
        }
    }

    private static void once(HollowPress x, int wall, int number, long[] ahead, long... behind) {
        Due.layers(x, 0, wall, ahead);
        x.beat(0, 1, number, 0);
        for (int i = 0; i < behind.length; i++) Edge.is("layer " + i, x.warmth(0, i), behind[i]);
    }

    private static void given() {
        Edge.of(0, "GIVEN: what went to the WALLS, less what came from them");
        HollowPress x = withPart();
        once(x, 0, 1, new long[] {1600, 0}, 1400);
        Edge.is("to the one", x.warmth(0, Due.NONE), 100);
        once(x, 0, 1, new long[] {0, 1600}, 100);
        Edge.is("to the other", x.warmth(0, Due.NONE), 100);
        once(x, 1601, 1, new long[] {1, 1}, 101);
        Edge.is("from both", x.warmth(0, Due.NONE), -200);
        once(x, 1600, 1, new long[] {3200, 0}, 2900);
        Edge.is("as much came as went", x.warmth(0, Due.NONE), 0);
        once(x, 15, 1, new long[] {0, 30}, 1);
        Edge.is("cut on both sides", x.warmth(0, Due.NONE), 0);
        long[] hot = new long[20];
        for (int i = 0; i < 20; i++) hot[i] = 10000;
        Due.layers(x, 0, 0, hot);
        for (int turn = 0; turn < 20; turn++) x.beat(0, 100, 5, 0);
        long sum = 0;
        for (int i = 0; i < 20; i++) sum += x.warmth(0, i);
        Edge.is("what is not there any more", x.warmth(0, Due.NONE), 200000 - sum);
    }

    private static void beat() {
        Edge.of(27, "n BEATS (1 to 100) by a number (1 to 5): how many were done till all LAYERS were at most e (0 to 10000), asked ahead of each one");
        HollowPress x = withPart();
        Due.layers(x, 0, 10000, 10000, 10000);
        Edge.is("one", x.beat(0, 1, 1, 0), 1);
        Edge.is("a hundred", x.beat(0, 100, 5, 9999), 100);
        Edge.is("at most 10000", x.beat(0, 100, 5, 10000), 0);
        Due.layers(x, 0, 0, 0, 0);
        Edge.is("at most 0", x.beat(0, 100, 5, 0), 0);
        Due.layers(x, 0, 0, 1600, 1600);
        Edge.is("as warm as e", x.beat(0, 100, 5, 1600), 0);
        Edge.is("nothing went", x.warmth(0, Due.NONE), 0);
        Edge.is("one more than e", x.beat(0, 100, 5, 1599), 1);
        Edge.is("one was enough", x.warmth(0, 0), 1100);
        Edge.is("just e behind the last of n", x.beat(0, 1, 5, 757), 1);
        Edge.is("so warm", x.warmth(0, 1), 757);
        Edge.is("and asked again none", x.beat(0, 1, 5, 757), 0);
        Due.layers(x, 0, 0, 0, 0, 1600);
        Edge.is("the last layer is asked, too", x.beat(0, 100, 1, 1599), 1);
        Due.layers(x, 0, 0, 1600, 0, 0);
        Edge.is("the first layer is asked, too", x.beat(0, 100, 1, 1599), 1);
    }

    private static void beatRefused() {
        HollowPress x = withPart();
        Due.layers(x, 0, 0, 1600, 1600);
        Edge.of(27, "BAD: place, n, number, e");
        for (int p : Edge.outside(0, 9)) Edge.is("place " + p, x.beat(p, 1, 1, 0), Due.BAD);
        int[] things = {0, PART, 9};
        for (int p : things) {
            for (int n : Edge.outside(1, 100)) Edge.is("n " + n + " of " + p, x.beat(p, n, 1, 0), Due.BAD);
            for (int k : Edge.outside(1, 5)) Edge.is("number " + k + " of " + p, x.beat(p, 1, k, 0), Due.BAD);
            for (int e : Edge.outside(0, 10000)) Edge.is("e " + e + " of " + p, x.beat(p, 1, 1, e), Due.BAD);
        }
        Edge.of(27, "NULL");
        Edge.is("an empty place", x.beat(9, 1, 1, 0), Due.NULL);
        Edge.of(27, "KIND");
        Edge.is("a part", x.beat(PART, 1, 1, 0), Due.KIND);
        Edge.is("nothing went", x.warmth(0, Due.NONE), 0);
    }

    private static void warmth() {
        HollowPress x = withPart();
        Due.layers(x, 0, 0, 10000, 0);
        long[] many = new long[20];
        for (int i = 0; i < 20; i++) many[i] = 10000 - i;
        Due.layers(x, 1, 0, many);
        Edge.of(28, "The warmth of a LAYER");
        Edge.is("the first of two", x.warmth(0, 0), 10000);
        Edge.is("the last of two", x.warmth(0, 1), 0);
        Edge.is("the last of twenty", x.warmth(1, 19), 9981);
        Edge.of(28, "of NONE: GIVEN so far");
        Edge.is("nothing yet", x.warmth(0, Due.NONE), 0);
        x.beat(0, 1, 1, 0);
        Edge.is("one beat", x.warmth(0, Due.NONE), 625);
        x.beat(0, 1, 1, 0);
        Edge.is("so far", x.warmth(0, Due.NONE), 625 + 546 + 39);
        Edge.is("others gave nothing", x.warmth(1, Due.NONE), 0);
    }

    private static void warmthRefused() {
        HollowPress x = withPart();
        Due.layers(x, 0, 0, 1600, 1600);
        Edge.of(28, "BAD: place");
        for (int p : Edge.outside(0, 9)) {
            Edge.is("place " + p, x.warmth(p, 0), Due.BAD);
            Edge.is("given of place " + p, x.warmth(p, Due.NONE), Due.BAD);
        }
        int[] layers = {0, -1, 20, Due.NONE};
        Edge.of(28, "NULL");
        for (int i : layers) Edge.is("layer " + i, x.warmth(9, i), Due.NULL);
        Edge.of(28, "KIND");
        for (int i : layers) Edge.is("layer " + i, x.warmth(PART, i), Due.KIND);
        Edge.of(28, "then BAD: LAYER");
        for (int i : Edge.outside(0, 1)) Edge.is("layer " + i, x.warmth(0, i), Due.BAD);
        Edge.is("beside NONE", x.warmth(0, Due.NONE + 1), Due.BAD);
    }
}
