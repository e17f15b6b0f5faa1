/** Promises 27 and 28: beat, warmth. */
public final class LayerTest {
    private static final int MIN = Integer.MIN_VALUE, MAX = Integer.MAX_VALUE;

    public static void main(String[] args) {
        beatOnce();
        cutTowardsZero();
        beatTill();
        given();
        refused();
        Due.end();
    }

    private static void beatOnce() {
        HollowPress x = new HollowPress();
        Due.layers(x, 0, 0, 1600, 0, 800);
        Due.is("beat", x.beat(0, 1, 1, 0), 1);
        Due.row("warmths", warmths(x, 3), 1600 - 100 - 100, 100 + 50, 800 - 50 - 50);
        Due.is("given", x.warmth(0, Due.NONE), 150);
        Due.layers(x, 0, 320, 0, 160);
        Due.is("beat", x.beat(0, 1, 2, 0), 1);
        Due.row("warmths", warmths(x, 2), 40 + 20, 160 - 20 + 20);
        Due.is("given", x.warmth(0, Due.NONE), -60);
        for (int number = 1; number <= 5; number++) {
            Due.layers(x, 0, 0, 1600, 1600);
            x.beat(0, 1, number, 0);
            Due.is("by " + number, x.warmth(0, 0), 1600 - 100 * number);
        }
    }

    private static void cutTowardsZero() {
        HollowPress x = new HollowPress();
        Due.layers(x, 0, 0, 15, 0);
        Due.is("beat", x.beat(0, 1, 1, 0), 1);
        Due.row("too little goes", warmths(x, 2), 15, 0);
        Due.layers(x, 0, 15, 15, 0);
        x.beat(0, 1, 1, 0);
        Due.row("neither comes", warmths(x, 2), 15, 0);
        Due.layers(x, 0, 31, 0, 31);
        x.beat(0, 1, 1, 0);
        Due.row("one comes", warmths(x, 2), 2, 30);
        Due.is("given", x.warmth(0, Due.NONE), -1);
    }

    private static void beatTill() {
        HollowPress x = new HollowPress();
        Due.layers(x, 0, 0, 1600, 1600);
        Due.is("at most e already", x.beat(0, 10, 5, 1600), 0);
        Due.is("nothing changed", x.warmth(0, 0), 1600);
        Due.is("one is enough", x.beat(0, 10, 5, 1100), 1);
        Due.is("warmth", x.warmth(0, 1), 1100);
        Due.is("one more", x.beat(0, 10, 5, 1099), 1);
        Due.is("n is the end", x.beat(0, 3, 1, 0), 3);
        Due.is("e 10000", x.beat(0, 100, 1, 10000), 0);
        Due.layers(x, 0, 0, 0, 1600);
        Due.is("all layers are asked", x.beat(0, 100, 1, 1500), 1);
        Due.layers(x, 0, 10000, 9999, 10000);
        Due.is("walls keep them warm", x.beat(0, 100, 5, 0), 100);
        Due.layers(x, 0, 0, 0, 0);
        Due.is("cold", x.beat(0, 100, 5, 0), 0);
        Due.is("status", x.status(), 0);
    }

    private static void given() {
        HollowPress x = new HollowPress();
        Due.layers(x, 0, 500, 10000, 3, 77, 5000, 0);
        int ahead = 15080;
        for (int turn = 0; turn < 5; turn++) {
            x.beat(0, 7, 1 + turn, 0);
            long sum = 0;
            for (long w : warmths(x, 5)) sum += w;
            Due.is("nothing is lost", x.warmth(0, Due.NONE), ahead - sum);
        }
    }

    private static void refused() {
        HollowPress x = new HollowPress();
        Due.layers(x, 0, 0, 1600, 800);
        Due.part(x, 1, 1, 1, 1);
        int[] wrongPlaces = {-1, 10, MIN, MAX};
        for (int p : wrongPlaces) {
            Due.is("beat " + p, x.beat(p, 1, 1, 0), Due.BAD);
            Due.is("warmth " + p, x.warmth(p, 0), Due.BAD);
            Due.is("given " + p, x.warmth(p, Due.NONE), Due.BAD);
        }
        int[] wrongCounts = {0, -1, 101, MIN, MAX};
        for (int n : wrongCounts) Due.is("n " + n, x.beat(0, n, 1, 0), Due.BAD);
        int[] wrongNumbers = {0, -1, 6, MIN, MAX};
        for (int k : wrongNumbers) Due.is("number " + k, x.beat(0, 1, k, 0), Due.BAD);
        int[] wrongEnds = {-1, 10001, MIN, MAX};
        for (int e : wrongEnds) Due.is("e " + e, x.beat(0, 1, 1, e), Due.BAD);
        Due.is("bad goes ahead of null", x.beat(2, 0, 1, 0), Due.BAD);
        Due.is("status", x.status(), 0);
        Due.is("null", x.beat(2, 1, 1, 0), Due.NULL);
        Due.is("status", x.status(), 1);
        Due.is("kind", x.beat(1, 1, 1, 0), Due.KIND);
        Due.is("status", x.status(), 3);
        Due.is("null", x.warmth(2, -1), Due.NULL);
        Due.is("status", x.status(), 1);
        Due.is("kind", x.warmth(1, 5), Due.KIND);
        Due.is("status", x.status(), 3);
        Due.is("kind", x.warmth(1, Due.NONE), Due.KIND);
        int[] wrongLayers = {-1, 2, 20, MIN, MAX, Due.BAD};
        for (int i : wrongLayers) Due.is("layer " + i, x.warmth(0, i), Due.BAD);
        Due.is("status stays", x.status(), 3);
        Due.row("nothing changed", warmths(x, 2), 1600, 800);
        Due.is("status", x.status(), 0);
    }

    private static long[] warmths(HollowPress x, int n) {
        long[] row = new long[n];
        for (int i = 0; i < n; i++) row[i] = x.warmth(0, i);
        return row;
    }
}
