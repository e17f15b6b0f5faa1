/** Promises 11 and 12, and what the terms say of ASKS. */
final class AskEdges {
    private AskEdges() {
    }

    static void run() {
        HollowPress x = new HollowPress();
        Due.part(x, 1, 3, 1, 1, 0, 2);
        Due.part(x, 2, 3, 1, 2, 0, 2);
        Due.part(x, 3, 3, 1, 2, 2, 2);
        Due.layers(x, 4, 0, 7, 9000, 10);
        weights(x);
        marks(x);
        whichBody(x);
        ask();
        trace();
        least();
        greatest();
    }

    private static void weights(HollowPress x) {
        Edge.of(0, "0 WEIGHT: 10 lent to all THINGS: 1");
        Edge.is("beside the thickness", x.ask(1, 0), 3 + 1);
        traced(x, 11, 10);
        Edge.of(0, "11 of PARTS: the thickness of all CELLS, added, and what 10 gives");
        x.gate(1, 0);
        Edge.is("gates weigh nothing in a part that is not even", x.ask(1, 0), 3 + 1);
        traced(x, 11, 10);
        Edge.of(0, "12 of EVEN ones: what 11 gives, and how many GATES");
        Edge.is("no gates", x.ask(2, 0), 4 + 1);
        x.gate(2, 0);
        x.gate(2, 2);
        Edge.is("two", x.ask(2, 0), 4 + 1 + 2);
        traced(x, 12, 11, 10);
        Edge.of(0, "13 of LAYERS: how many");
        Edge.is("three", x.ask(4, 0), 3);
        traced(x, 13);
    }

    private static void marks(HollowPress x) {
        Edge.of(0, "1 MARK: 20 lent to all THINGS: WEIGHT and 5");
        Edge.is("of a part", x.ask(1, 1), 3 + 1 + 5);
        traced(x, 20, 11, 10);
        Edge.is("of an even one", x.ask(2, 1), 4 + 1 + 2 + 5);
        traced(x, 20, 12, 11, 10);
        Edge.of(0, "21 of PLATES: what 20 gives, twice");
        Edge.is("no gates", x.ask(3, 1), 2 * (6 + 1 + 5));
        traced(x, 21, 20, 12, 11, 10);
        x.gate(3, 1);
        Edge.is("a gate", x.ask(3, 1), 2 * (6 + 1 + 1 + 5));
        Edge.of(0, "22 of LAYERS: the greatest warmth");
        Edge.is("the one in the middle", x.ask(4, 1), 9000);
        traced(x, 22);
        x.beat(4, 1, 1, 0);
        Edge.is("what it is now", x.ask(4, 1), x.warmth(4, 1));
    }

    private static void whichBody(HollowPress x) {
        Edge.of(0, "by this it is asked");
        Edge.is("a plate is a part, too", x.ask(3, 1), 2 * (6 + 1 + 1 + 5));
        traced(x, 21, 20, 12, 11, 10);
        Edge.of(0, "Of an ask the BODY told for the KIND begins, else that of the nearest KIND that it is, too, else the one that is lent");
        Edge.is("a plate has none for weight: that of even ones", x.ask(3, 0), 6 + 1 + 1);
        traced(x, 12, 11, 10);
        Edge.is("an even one has none for mark: the one that is lent", x.ask(2, 1), 4 + 1 + 2 + 5);
        traced(x, 20, 12, 11, 10);
        Edge.of(0, "WEIGHT within another one is asked of the same THING anew");
        Edge.is("the one of parts", x.ask(1, 1), 3 + 1 + 5);
        traced(x, 20, 11, 10);
    }

    private static void ask() {
        HollowPress x = new HollowPress();
        Due.part(x, 0, 1, 1, 9);
        Edge.of(11, "An ASK (0, 1) of a THING");
        Edge.is("weight", x.ask(0, 0), 10);
        Edge.is("mark", x.ask(0, 1), 30);
        Edge.of(11, "BAD");
        for (int p : Edge.outside(0, 9)) Edge.is("place " + p, x.ask(p, 0), Due.BAD);
        for (int what : Edge.outside(0, 1)) {
            Edge.is("what " + what, x.ask(0, what), Due.BAD);
            Edge.is("what " + what + " of nothing", x.ask(1, what), Due.BAD);
        }
        Edge.of(11, "THE TRACE is empty ahead of it, if it is not BAD");
        traced(x, 21, 20, 12, 11, 10);
        Edge.is("another ask", x.ask(0, 0), 10);
        traced(x, 12, 11, 10);
        Edge.of(11, "NULL");
        for (int p = 1; p <= 9; p++) Edge.is("place " + p, x.ask(p, p % 2), Due.NULL);
        Edge.of(11, "THE TRACE is empty ahead of it, if it is not BAD");
        traced(x);
    }

    private static void trace() {
        HollowPress x = new HollowPress();
        Edge.of(12, "NONE");
        traced(x);
        Due.part(x, 0, 1, 1, 9);
        x.ask(0, 1);
        for (int i : Edge.outside(0, 4)) Edge.is("trace " + i, x.trace(i), Due.NONE);
        Edge.of(12, "Number i of THE TRACE");
        Edge.is("the first", x.trace(0), 21);
        Edge.is("the last", x.trace(4), 10);
        Edge.is("other calls leave it", x.kind(5), Due.NULL);
        Edge.is("a thing that is gone, too", x.clear(0), 1);
        traced(x, 21, 20, 12, 11, 10);
        Edge.of(0, "ASKS, by BODIES, each of which leaves its number in THE TRACE as it begins (the first 16)");
        for (int turn = 0; turn < 5; turn++) {
            Due.part(x, 0, 1, 1, 9);
            x.ask(0, 1);
            traced(x, 21, 20, 12, 11, 10);
        }
    }

    private static void least() {
        HollowPress x = new HollowPress();
        Edge.of(0, "22 of LAYERS: the greatest warmth");
        Due.layers(x, 0, 0, 0, 0);
        Edge.is("all are cold", x.ask(0, 1), 0);
        Edge.of(0, "11 of PARTS: the thickness of all CELLS, added");
        Due.part(x, 0, 2, 1, 0, 1);
        Edge.is("one cell", x.ask(0, 0), 1 + 1);
    }

    private static void greatest() {
        HollowPress x = new HollowPress();
        long[] thick = new long[144];
        for (int i = 0; i < 144; i++) thick[i] = 9;
        Due.part(x, 0, 12, 12, thick);
        for (int g = 0; g < 4; g++) x.gate(0, g);
        Edge.of(0, "12 of EVEN ones: what 11 gives, and how many GATES");
        Edge.is("144 cells, four gates", x.ask(0, 0), 144 * 9 + 1 + 4);
        x.gate(0, 4);
        Edge.is("a fifth gate is none", x.ask(0, 1), 2 * (144 * 9 + 1 + 4 + 5));
    }

    /** THE TRACE has these numbers and no more. */
    private static void traced(HollowPress x, int... due) {
        for (int i = 0; i < due.length; i++) Edge.is("trace " + i, x.trace(i), due[i]);
        for (int i = due.length; i < due.length + 5; i++) Edge.is("trace " + i, x.trace(i), Due.NONE);
        for (int i : new int[] {15, 16, 17, -1}) Edge.is("trace " + i, x.trace(i), Due.NONE);
    }
}
