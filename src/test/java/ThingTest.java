/** Promises 6 to 12: part, layers, clear, kind, is, ask, trace. */
public final class ThingTest {
    private static final int MIN = Integer.MIN_VALUE, MAX = Integer.MAX_VALUE;

    public static void main(String[] args) {
        part();
        partRefused();
        partIsNew();
        layers();
        layersRefused();
        clear();
        kindAndIs();
        ask();
        trace();
        Due.end();
    }

    private static void part() {
        HollowPress x = new HollowPress();
        Due.is("plate", Due.part(x, 0, 2, 2, 2, 2, 2, 2), 3);
        Due.is("plate of one", Due.part(x, 1, 1, 1, 9), 3);
        Due.is("even", Due.part(x, 2, 3, 1, 0, 4, 4), 2);
        Due.is("even of one cell", Due.part(x, 3, 1, 3, 0, 0, 4), 2);
        Due.is("part with holes", Due.part(x, 4, 3, 1, 0, 4, 5), 1);
        Due.is("part without holes", Due.part(x, 5, 1, 2, 1, 9), 1);
        Due.is("count", x.count(1), 6);
        Due.fill(x, 0, 8, 1, 2, 3, 4, 5, 6, 8);
        Due.is("from 1 on", x.part(9, 0, 1, 3, 2), 1);
        for (int c = 0; c < 6; c++) Due.is("cell " + c, x.cell(9, c, 0), c + 1);
        Due.is("no cell behind", x.cell(9, 6, 0), Due.BAD);
        Due.is("set", x.set(0, 1, 9), 9);
        Due.is("drop", x.drop(0), 8);
        Due.is("the part stays as it was made", x.cell(9, 0, 0), 1);
        for (int lane = 0; lane < 3; lane++) {
            x.sheet(1, lane, 144);
            for (int i = 0; i < 144; i++) x.set(1, i, 9);
            Due.is("12 by 12, lane " + lane, x.part(8, 1, 0, 12, 12), 3);
        }
        Due.is("weight", x.ask(8, 0), 144 * 9 + 1);
        rowByRow();
    }

    private static void rowByRow() {
        HollowPress x = new HollowPress();
        Due.is("3 by 2", Due.part(x, 0, 3, 2, 9, 9, 9, 9, 9, 9), 3);
        x.gate(0, 2);
        Due.is("below", x.cell(0, 5, 1), 12);
        Due.is("not beside over the edge", x.cell(0, 3, 1), 24);
    }

    private static void partRefused() {
        HollowPress x = new HollowPress();
        Due.fill(x, 0, 1, 2, 3, 4, 5, 6);
        Due.is("part", x.part(0, 0, 0, 2, 3), 1);
        int[] wrongPlaces = {-1, 10, MIN, MAX};
        for (int p : wrongPlaces) Due.is("place " + p, x.part(p, 0, 0, 1, 1), Due.BAD);
        int[] wrongSheets = {-1, 8, MIN, MAX};
        for (int s : wrongSheets) Due.is("sheet " + s, x.part(0, s, 0, 1, 1), Due.BAD);
        int[] wrongSides = {0, -1, 13, MIN, MAX};
        for (int w : wrongSides) {
            Due.is("w " + w, x.part(0, 0, 0, w, 1), Due.BAD);
            Due.is("h " + w, x.part(0, 0, 0, 1, w), Due.BAD);
            Due.is("bad goes ahead of null", x.part(0, 1, 0, w, 1), Due.BAD);
        }
        Due.is("status", x.status(), 0);
        Due.is("missing", x.part(0, 1, 0, 1, 1), Due.NULL);
        Due.is("status", x.status(), 1);
        Due.is("null goes ahead of place", x.part(0, 1, -1, 1, 1), Due.NULL);
        int[] wrongItems = {-1, 1, 6, 7, MIN, MAX};
        for (int i : wrongItems) {
            Due.is("from " + i, x.part(0, 0, i, 3, 2), Due.PLACE);
            Due.is("status", x.status(), 2);
        }
        long[] wrongThick = {10, -1, MAX, MIN};
        for (long t : wrongThick) {
            x.set(0, 5, t);
            Due.is("status", x.status(), 0);
            Due.is("an item " + t, x.part(0, 0, 0, 2, 3), Due.BAD);
            Due.is("place goes ahead", x.part(0, 0, 1, 2, 3), Due.PLACE);
            Due.is("an item " + t, x.part(0, 0, 0, 2, 3), Due.BAD);
            Due.is("status stays", x.status(), 2);
        }
        x.sheet(2, 2, 2);
        x.set(2, 0, 1);
        x.set(2, 1, (1L << 32) + 1);
        Due.is("a long item", x.part(0, 2, 0, 2, 1), Due.BAD);
        x.sheet(3, 1, 144);
        Due.is("no cell", x.part(0, 3, 0, 12, 12), Due.BAD);
        for (int c = 0; c < 6; c++) Due.is("refused changes nothing", x.cell(0, c, 0), c + 1);
    }

    private static void partIsNew() {
        HollowPress x = new HollowPress();
        Due.part(x, 0, 2, 1, 9, 9);
        x.gate(0, 0);
        x.vent(0, 1);
        Due.is("best", x.best(0), 0);
        Due.is("strain", x.cell(0, 1, 1), 12);
        Due.is("no trap", x.trap(0, 0), Due.NONE);
        Due.is("again", Due.part(x, 0, 2, 1, 9, 9), 3);
        Due.is("no gate", x.cell(0, 0, 1), Due.NONE);
        Due.is("no gate weighs", x.ask(0, 0), 19);
        Due.is("first gate", x.gate(0, 0), 0);
        Due.is("no vent", x.trap(0, 0), 1);
        Due.is("other", Due.part(x, 0, 4, 1, 1, 9, 9, 9), 1);
        Due.is("best anew", x.best(0), 1);
        Due.is("other", Due.part(x, 0, 4, 1, 9, 9, 9, 1), 1);
        Due.is("best anew", x.best(0), 2);
        Due.is("other", Due.part(x, 0, 3, 1, 9, 0, 1), 1);
        Due.is("best anew", x.best(0), Due.NONE);
    }

    private static void layers() {
        HollowPress x = new HollowPress();
        Due.is("two", Due.layers(x, 0, 0, 0, 10000), 4);
        Due.is("wall", Due.layers(x, 1, 10000, 1, 2, 3), 4);
        Due.fill(x, 0, 1, 2, 3, 4, 5, 6, 7, 8, 9, 10, 11, 12, 13, 14, 15, 16, 17, 18, 19, 20, 21, 22);
        Due.is("twenty from 1 on", x.layers(2, 0, 1, 20, 50), 4);
        Due.is("twenty", x.ask(2, 0), 20);
        for (int i = 0; i < 20; i++) Due.is("layer " + i, x.warmth(2, i), i + 2);
        Due.is("given", x.warmth(2, Due.NONE), 0);
        x.set(0, 1, 77);
        Due.is("stays as it was made", x.warmth(2, 0), 2);
        Due.is("up to the end", x.layers(3, 0, 2, 20, 50), 4);
        Due.is("in place of a part", Due.part(x, 4, 1, 1, 1), 3);
        Due.is("in place of a part", x.layers(4, 0, 2, 20, 50), 4);
        x.beat(4, 3, 5, 0);
        Due.is("anew", x.layers(4, 0, 2, 2, 50), 4);
        Due.is("given anew", x.warmth(4, Due.NONE), 0);
        Due.is("count anew", x.ask(4, 0), 2);
        Due.is("part in place of layers", Due.part(x, 4, 1, 1, 1), 3);
        Due.is("kind", x.kind(4), 3);
    }

    private static void layersRefused() {
        HollowPress x = new HollowPress();
        Due.layers(x, 0, 0, 5, 6);
        Due.fill(x, 0, 1, 2, 3, 4, 5);
        int[] wrongPlaces = {-1, 10, MIN, MAX};
        for (int p : wrongPlaces) Due.is("place " + p, x.layers(p, 0, 0, 2, 0), Due.BAD);
        int[] wrongSheets = {-1, 8, MIN, MAX};
        for (int s : wrongSheets) Due.is("sheet " + s, x.layers(0, s, 0, 2, 0), Due.BAD);
        int[] wrongCounts = {1, 0, -1, 21, MIN, MAX};
        for (int n : wrongCounts) {
            Due.is("n " + n, x.layers(0, 0, 0, n, 0), Due.BAD);
            Due.is("bad goes ahead of null", x.layers(0, 1, 0, n, 0), Due.BAD);
        }
        int[] wrongWalls = {-1, 10001, MIN, MAX};
        for (int wall : wrongWalls) Due.is("wall " + wall, x.layers(0, 0, 0, 2, wall), Due.BAD);
        Due.is("status", x.status(), 0);
        Due.is("missing", x.layers(0, 1, 0, 2, 0), Due.NULL);
        Due.is("status", x.status(), 1);
        Due.is("null goes ahead of place", x.layers(0, 1, -1, 2, 0), Due.NULL);
        int[] wrongItems = {-1, 4, 5, 6, MIN, MAX};
        for (int i : wrongItems) Due.is("from " + i, x.layers(0, 0, i, 2, 0), Due.PLACE);
        Due.is("status", x.status(), 2);
        long[] wrongWarm = {10001, -1, MAX, MIN};
        for (long t : wrongWarm) {
            x.set(0, 4, t);
            Due.is("an item " + t, x.layers(0, 0, 3, 2, 0), Due.BAD);
            Due.is("status stays", x.status(), 0);
            Due.is("place goes ahead", x.layers(0, 0, 4, 2, 0), Due.PLACE);
        }
        Due.is("refused changes nothing", x.warmth(0, 0), 5);
    }

    private static void clear() {
        HollowPress x = new HollowPress();
        Due.part(x, 0, 1, 1, 1);
        Due.layers(x, 9, 0, 1, 2);
        Due.is("empty", x.kind(1), Due.NULL);
        Due.is("clear", x.clear(0), 1);
        Due.is("status stays", x.status(), 1);
        Due.is("it was", x.clear(0), 0);
        Due.is("never had", x.clear(5), 0);
        Due.is("count", x.count(1), 1);
        Due.is("clear layers", x.clear(9), 1);
        Due.is("count", x.count(1), 0);
        int[] wrong = {-1, 10, MIN, MAX};
        for (int p : wrong) Due.is("clear " + p, x.clear(p), Due.BAD);
        hangingStays();
    }

    private static void hangingStays() {
        HollowPress x = new HollowPress();
        Due.part(x, 0, 1, 1, 1);
        Due.part(x, 1, 1, 1, 1);
        Due.fill(x, 0, 1, 2, 3, 4, 5);
        x.branch(Due.NONE, 1, 1);
        x.hang(0, 0);
        Due.is("empty", x.kind(5), Due.NULL);
        Due.is("clear", x.clear(0), Due.STATE);
        Due.is("part", x.part(0, 0, 0, 1, 1), Due.STATE);
        Due.is("state goes ahead of null", x.part(0, 1, 0, 1, 1), Due.STATE);
        Due.is("state goes ahead of place", x.part(0, 0, -1, 1, 1), Due.STATE);
        Due.is("bad goes ahead of state", x.part(0, 0, 0, 0, 1), Due.BAD);
        Due.is("layers", x.layers(0, 0, 0, 2, 0), Due.STATE);
        Due.is("state goes ahead of null", x.layers(0, 1, 0, 2, 0), Due.STATE);
        Due.is("bad goes ahead of state", x.layers(0, 0, 0, 1, 0), Due.BAD);
        Due.is("status stays", x.status(), 1);
        Due.is("kind", x.kind(0), 3);
        Due.is("the other is free", x.clear(1), 1);
        x.strip();
        Due.is("clear behind strip", x.clear(0), 1);
    }

    private static void kindAndIs() {
        HollowPress x = new HollowPress();
        Due.part(x, 1, 2, 1, 1, 2);
        Due.part(x, 2, 2, 1, 0, 2);
        Due.part(x, 3, 2, 1, 2, 2);
        Due.layers(x, 4, 0, 2, 2);
        int[][] due = {{0, 0, 0, 0, 0}, {1, 1, 0, 0, 0}, {1, 1, 1, 0, 0}, {1, 1, 1, 1, 0}, {1, 0, 0, 0, 1}};
        for (int p = 1; p <= 4; p++) {
            Due.is("kind " + p, x.kind(p), p);
            Due.is("status", x.status(), 0);
        }
        Due.is("kind of nothing", x.kind(0), Due.NULL);
        for (int p = 0; p <= 4; p++) {
            for (int k = 0; k <= 4; k++) Due.is("is " + p + " " + k, x.is(p, k), due[p][k]);
        }
        Due.is("is() leaves the status", x.status(), 1);
        int[] wrong = {-1, 10, MIN, MAX};
        for (int p : wrong) {
            Due.is("kind " + p, x.kind(p), Due.BAD);
            Due.is("is " + p, x.is(p, 0), Due.BAD);
        }
        int[] wrongKinds = {-1, 5, MIN, MAX};
        for (int k : wrongKinds) {
            Due.is("is a kind " + k, x.is(1, k), Due.BAD);
            Due.is("is nothing of a kind " + k, x.is(0, k), Due.BAD);
        }
        Due.is("status stays", x.status(), 1);
    }

    private static void ask() {
        HollowPress x = new HollowPress();
        Due.part(x, 1, 3, 1, 1, 0, 2);
        Due.part(x, 2, 2, 2, 0, 2, 2, 2);
        Due.part(x, 3, 2, 1, 2, 2);
        Due.layers(x, 4, 0, 7, 900, 30);
        Due.is("weight of a part", x.ask(1, 0), 4);
        traced(x, 11, 10);
        Due.is("mark of a part", x.ask(1, 1), 9);
        traced(x, 20, 11, 10);
        x.gate(1, 0);
        Due.is("gates weigh nothing", x.ask(1, 0), 4);
        Due.is("weight of an even one", x.ask(2, 0), 7);
        traced(x, 12, 11, 10);
        x.gate(2, 1);
        x.gate(2, 2);
        Due.is("with gates", x.ask(2, 0), 9);
        Due.is("mark of an even one", x.ask(2, 1), 14);
        traced(x, 20, 12, 11, 10);
        x.gate(3, 1);
        Due.is("weight of a plate", x.ask(3, 0), 6);
        traced(x, 12, 11, 10);
        Due.is("mark of a plate", x.ask(3, 1), 22);
        traced(x, 21, 20, 12, 11, 10);
        Due.is("weight of layers", x.ask(4, 0), 3);
        traced(x, 13);
        Due.is("mark of layers", x.ask(4, 1), 900);
        traced(x, 22);
        x.beat(4, 1, 5, 0);
        Due.is("mark behind a beat", x.ask(4, 1), 350);
    }

    private static void trace() {
        HollowPress x = new HollowPress();
        Due.is("at first", x.trace(0), Due.NONE);
        Due.part(x, 3, 2, 1, 2, 2);
        Due.is("mark", x.ask(3, 1), 20);
        int[] wrong = {-1, 5, 15, 16, 17, MIN, MAX};
        for (int i : wrong) Due.is("trace " + i, x.trace(i), Due.NONE);
        int[] wrongPlaces = {-1, 10, MIN, MAX};
        for (int p : wrongPlaces) Due.is("ask " + p, x.ask(p, 0), Due.BAD);
        int[] wrongAsks = {-1, 2, MIN, MAX};
        for (int a : wrongAsks) {
            Due.is("ask for " + a, x.ask(3, a), Due.BAD);
            Due.is("ask nothing for " + a, x.ask(0, a), Due.BAD);
        }
        Due.is("status stays", x.status(), 0);
        traced(x, 21, 20, 12, 11, 10);
        Due.is("ask nothing", x.ask(0, 0), Due.NULL);
        Due.is("status", x.status(), 1);
        traced(x);
        Due.is("ask", x.ask(3, 0), 5);
        traced(x, 12, 11, 10);
    }

    private static void traced(HollowPress x, int... due) {
        for (int i = 0; i < due.length; i++) Due.is("trace " + i, x.trace(i), due[i]);
        for (int i = due.length; i < 17; i++) Due.is("trace " + i, x.trace(i), Due.NONE);
    }
}
