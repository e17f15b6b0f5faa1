/** Promises 6 to 10, and what the terms say of THE SHELF and KINDS. */
final class ThingEdges {
    private ThingEdges() {
    }

    static void run() {
        shelf();
        kinds();
        toldAs();
        placesOfParts();
        part();
        partRefused();
        partFound();
        partOfWrongItems();
        layers();
        layersRefused();
        layersOfWrongItems();
        clear();
        kindAndIs();
    }

    private static void shelf() {
        Edge.of(0, "THE SHELF has places 0 .. 9, each empty (at first) or with a THING");
        HollowPress x = new HollowPress();
        SheetEdges.fill(x, 0, 1, 2);
        for (int p = 0; p <= 9; p++) {
            Edge.is("empty " + p, x.kind(p), Due.NULL);
            Edge.is("part", x.part(p, 0, 0, 1, 1), 3);
            Edge.is("things", x.count(1), p + 1);
            Edge.is("layers in its place", x.layers(p, 0, 0, 2, 0), 4);
            Edge.is("things", x.count(1), p + 1);
        }
    }

    private static void kinds() {
        HollowPress x = new HollowPress();
        Due.part(x, 1, 2, 1, 1, 2);
        Due.part(x, 2, 2, 1, 0, 2);
        Due.part(x, 3, 2, 1, 2, 2);
        Due.layers(x, 4, 0, 2, 2);
        Edge.of(0, "KINDS: 0 THING");
        is(x, 0, 0, 1, 1, 1, 1);
        Edge.of(0, "1 PART, a THING");
        is(x, 1, 0, 1, 1, 1, 0);
        Edge.of(0, "2 EVEN, a PART: all its CELLS are as thick");
        is(x, 2, 0, 0, 1, 1, 0);
        Edge.is("one of many is thinner", Due.part(x, 0, 2, 3, 9, 9, 9, 9, 9, 8), 1);
        Edge.is("one of many is thinner, with gaps", Due.part(x, 0, 2, 3, 0, 9, 9, 9, 0, 8), 1);
        Edge.is("the first is thicker", Due.part(x, 0, 2, 3, 2, 1, 1, 1, 1, 1), 1);
        Edge.is("gaps are not thin cells", Due.part(x, 0, 2, 3, 9, 9, 9, 0, 9, 9), 2);
        Edge.of(0, "3 PLATE, an EVEN one: it has no places without a CELL");
        is(x, 3, 0, 0, 0, 1, 0);
        Edge.is("one cell", Due.part(x, 0, 1, 1, 1), 3);
        Edge.is("a gap at the first", Due.part(x, 0, 3, 1, 0, 1, 1), 2);
        Edge.is("a gap at the last", Due.part(x, 0, 3, 1, 1, 1, 0), 2);
        Edge.is("all but one are gaps", Due.part(x, 0, 3, 1, 0, 1, 0), 2);
        Edge.of(0, "4 LAYERS, a THING");
        is(x, 4, 0, 0, 0, 0, 1);
    }

    /** What is() says of places 0 to 4: 0 is empty at first. */
    private static void is(HollowPress x, int kind, int... due) {
        x.clear(0);
        for (int p = 0; p <= 4; p++) Edge.is("is " + p + " a " + kind, x.is(p, kind), due[p]);
    }

    private static void toldAs() {
        Edge.of(0, "A THING is told as the first that fits of PLATE, EVEN, PART");
        HollowPress x = new HollowPress();
        Edge.is("all three fit", Due.part(x, 0, 2, 1, 9, 9), 3);
        Edge.is("kind", x.kind(0), 3);
        Edge.is("two fit", Due.part(x, 0, 2, 1, 9, 0), 2);
        Edge.is("kind", x.kind(0), 2);
        Edge.is("one fits", Due.part(x, 0, 2, 1, 9, 8), 1);
        Edge.is("kind", x.kind(0), 1);
        Edge.is("without gaps, but not even", Due.part(x, 0, 1, 2, 1, 2), 1);
    }

    private static void placesOfParts() {
        HollowPress x = new HollowPress();
        Edge.of(0, "A PART has w by h places (1 to 12 each), row by row, each 0 (no CELL) or a CELL 1 to 9 thick");
        x.sheet(0, 1, 144);
        for (int i = 0; i < 144; i++) x.set(0, i, i % 10);
        int[][] sides = {{1, 12}, {12, 1}, {12, 12}, {2, 1}, {1, 2}};
        for (int[] s : sides) {
            Edge.is("w " + s[0] + " h " + s[1], x.part(0, 0, 0, s[0], s[1]), s[0] * s[1] == 2 ? 2 : 1);
            Edge.is("the last place", x.cell(0, s[0] * s[1] - 1, 0), (s[0] * s[1] - 1) % 10);
            Edge.is("none behind it", x.cell(0, s[0] * s[1], 0), Due.BAD);
        }
        Edge.is("1 by 1 without a cell", x.part(0, 0, 0, 1, 1), Due.BAD);
        Edge.is("1 by 1", x.part(0, 0, 1, 1, 1), 3);
        Due.part(x, 1, 3, 2, 1, 2, 3, 4, 5, 6);
        for (int c = 0; c < 6; c++) Edge.is("row by row " + c, x.cell(1, c, 0), c + 1);
        x.gate(1, 1);
        Edge.is("the one below is a row further", x.cell(1, 4, 1), 625 + 40);
        Edge.of(0, "there is one");
        Edge.is("one cell at the last place", Due.part(x, 1, 2, 2, 0, 0, 0, 9), 2);
        Edge.is("no cell", Due.part(x, 1, 2, 2, 0, 0, 0, 0), Due.BAD);
        Edge.is("the part stays", x.cell(1, 3, 0), 9);
    }

    private static void part() {
        Edge.of(6, "A place has a PART of w by h places, ITEMS of a SHEET from i on: its KIND");
        HollowPress x = new HollowPress();
        SheetEdges.fill(x, 0, 0, 9, 9, 8);
        Edge.is("from 0 on", x.part(0, 0, 0, 2, 1), 2);
        Edge.is("from 1 on", x.part(0, 0, 1, 2, 1), 3);
        Edge.is("up to the end", x.part(0, 0, 2, 1, 2), 1);
        Edge.is("the last item", x.part(0, 0, 3, 1, 1), 3);
        Edge.is("its thickness", x.cell(0, 0, 0), 8);
        Edge.is("the whole sheet", x.part(9, 0, 0, 2, 2), 1);
        x.set(0, 1, 5);
        x.drop(0);
        Edge.is("the sheet is not looked at any more", x.cell(9, 1, 0), 9);
        for (int lane = 0; lane <= 2; lane++) {
            x.sheet(1, lane, 1);
            x.set(1, 0, 9);
            Edge.is("lane " + lane, x.part(1, 1, 0, 1, 1), 3);
        }
        x.gate(1, 0);
        x.vent(1, 0);
        Edge.is("in place of another", x.part(1, 1, 0, 1, 1), 3);
        Edge.is("it has no gate", x.cell(1, 0, 1), Due.NONE);
        Edge.is("nor a vent", x.vent(1, 0), 1);
    }

    private static void partRefused() {
        HollowPress x = new HollowPress();
        SheetEdges.fill(x, 0, 1, 2, 3, 4);
        Edge.of(6, "BAD: place, SHEET, w, h");
        for (int p : Edge.outside(0, 9)) Edge.is("place " + p, x.part(p, 0, 0, 1, 1), Due.BAD);
        for (int s : Edge.outside(0, 7)) Edge.is("sheet " + s, x.part(0, s, 0, 1, 1), Due.BAD);
        for (int side : Edge.outside(1, 12)) {
            Edge.is("w " + side, x.part(0, 0, 0, side, 1), Due.BAD);
            Edge.is("h " + side, x.part(0, 0, 0, 1, side), Due.BAD);
            Edge.is("w and h " + side, x.part(0, 0, 0, side, side), Due.BAD);
            Edge.is("w ahead of a missing sheet", x.part(0, 7, 0, side, 1), Due.BAD);
            Edge.is("h ahead of a place", x.part(0, 0, -1, 1, side), Due.BAD);
        }
        Edge.is("both below 0, of a good product", x.part(0, 0, 0, -2, -2), Due.BAD);
        Edge.is("nothing came", x.count(1), 0);
        Edge.of(6, "STATE: what stands there hangs at a BRANCH");
        Due.part(x, 0, 1, 1, 7);
        x.branch(Due.NONE, 1, 1);
        x.branch(0, 1, 1);
        x.hang(1, 0);
        Edge.is("hangs", x.part(0, 0, 0, 1, 1), Due.STATE);
        Edge.is("ahead of null", x.part(0, 7, 0, 1, 1), Due.STATE);
        Edge.is("ahead of place", x.part(0, 0, 4, 1, 1), Due.STATE);
        Edge.is("behind bad", x.part(0, 0, 0, 1, 13), Due.BAD);
        Edge.is("another place", x.part(1, 0, 0, 1, 1), 3);
        Edge.is("it stays", x.cell(0, 0, 0), 7);
        x.strip();
        Edge.is("it hangs no more", x.part(0, 0, 0, 1, 1), 3);
    }

    private static void partFound() {
        HollowPress x = new HollowPress();
        SheetEdges.fill(x, 0, 1, 2, 3, 10);
        Edge.of(6, "NULL");
        for (int s = 1; s <= 7; s++) Edge.is("sheet " + s, x.part(0, s, 0, 1, 1), Due.NULL);
        Edge.is("ahead of place", x.part(0, 1, -1, 1, 1), Due.NULL);
        Edge.of(6, "PLACE");
        for (int i : Edge.outside(0, 3)) Edge.is("from " + i, x.part(0, 0, i, 1, 1), Due.PLACE);
        for (int i : new int[] {1, 2, 3, 4, -1, Edge.MAX - 3}) Edge.is("four from " + i, x.part(0, 0, i, 2, 2), Due.PLACE);
        Edge.is("ahead of a wrong item", x.part(0, 0, 3, 2, 1), Due.PLACE);
        Edge.is("more than there are", x.part(0, 0, 0, 5, 1), Due.PLACE);
        Edge.is("far more", x.part(0, 0, 0, 12, 12), Due.PLACE);
        x.sheet(1, 1, 0);
        Edge.is("of none", x.part(0, 1, 0, 1, 1), Due.PLACE);
        x.sheet(2, 1, 144);
        Edge.is("144 from 1 on", x.part(0, 2, 1, 12, 12), Due.PLACE);
        Edge.is("nothing came", x.count(1), 0);
    }

    private static void partOfWrongItems() {
        Edge.of(6, "then BAD: an ITEM is not 0 .. 9, or there is no CELL");
        HollowPress x = new HollowPress();
        x.sheet(0, 2, 4);
        for (int at = 0; at < 4; at++) {
            for (int i = 0; i < 4; i++) x.set(0, i, 9);
            for (long v : new long[] {10, -1, 255, 256 + 9, (1L << 32) + 9, Long.MIN_VALUE, Long.MAX_VALUE}) {
                x.set(0, at, v);
                Edge.is("item " + at + " is " + v, x.part(0, 0, 0, 2, 2), Due.BAD);
                if (at > 0) Edge.is("those ahead of it", x.part(1, 0, 0, at, 1), 3);
                if (at < 3) Edge.is("those behind it", x.part(1, 0, at + 1, 3 - at, 1), 3);
            }
        }
        x.sheet(0, 0, 144);
        Edge.is("no cell", x.part(0, 0, 0, 12, 12), Due.BAD);
        Edge.is("nothing came", x.kind(0), Due.NULL);
        x.set(0, 143, 1);
        Edge.is("one cell", x.part(0, 0, 0, 12, 12), 2);
    }

    private static void layers() {
        HollowPress x = new HollowPress();
        x.sheet(0, 2, 20);
        for (int i = 0; i < 20; i++) x.set(0, i, i % 2 == 0 ? 10000 : 0);
        Edge.of(0, "LAYERS, 2 to 20, each with a warmth 0 to 10000, and a WALL of warmth 0 to 10000 on either side");
        Edge.is("two, a cold wall", x.layers(0, 0, 0, 2, 0), 4);
        Edge.is("how many", x.ask(0, 0), 2);
        Edge.is("twenty, a warm wall", x.layers(1, 0, 0, 20, 10000), 4);
        Edge.is("how many", x.ask(1, 0), 20);
        Edge.is("the warmest", x.warmth(1, 18), 10000);
        Edge.is("the coldest", x.warmth(1, 19), 0);
        x.beat(1, 1, 1, 0);
        Edge.is("the wall on this side is as warm as the layer", x.warmth(1, 0), 10000 - 625);
        Edge.is("the wall on that side warms it", x.warmth(1, 19), 625 + 625);
        Edge.of(7, "A place has n LAYERS, ITEMS of a SHEET from i on, WALLS of a warmth: its KIND");
        Edge.is("up to the end", x.layers(2, 0, 18, 2, 5), 4);
        Edge.is("the first", x.warmth(2, 0), 10000);
        Edge.is("the last", x.warmth(2, 1), 0);
        Edge.is("nothing is given", x.warmth(2, Due.NONE), 0);
        x.set(0, 18, 3);
        x.drop(0);
        Edge.is("the sheet is not looked at any more", x.warmth(2, 0), 10000);
        for (int lane = 0; lane <= 2; lane++) {
            x.sheet(0, lane, 2);
            Edge.is("lane " + lane, x.layers(1, 0, 0, 2, 0), 4);
            Edge.is("nothing is given any more", x.warmth(1, Due.NONE), 0);
        }
    }

    private static void layersRefused() {
        HollowPress x = new HollowPress();
        SheetEdges.fill(x, 0, 1, 2, 3);
        Edge.of(7, "BAD: place, SHEET, n, the WALLS");
        for (int p : Edge.outside(0, 9)) Edge.is("place " + p, x.layers(p, 0, 0, 2, 0), Due.BAD);
        for (int s : Edge.outside(0, 7)) Edge.is("sheet " + s, x.layers(0, s, 0, 2, 0), Due.BAD);
        for (int n : Edge.outside(2, 20)) {
            Edge.is("n " + n, x.layers(0, 0, 0, n, 0), Due.BAD);
            Edge.is("ahead of a missing sheet", x.layers(0, 7, 0, n, 0), Due.BAD);
        }
        for (int wall : Edge.outside(0, 10000)) {
            Edge.is("wall " + wall, x.layers(0, 0, 0, 2, wall), Due.BAD);
            Edge.is("ahead of a place", x.layers(0, 0, -1, 2, wall), Due.BAD);
        }
        Edge.of(7, "STATE likewise");
        Due.part(x, 0, 1, 1, 7);
        x.branch(Due.NONE, 1, 1);
        x.hang(0, 0);
        Edge.is("hangs", x.layers(0, 0, 0, 2, 0), Due.STATE);
        Edge.is("ahead of null", x.layers(0, 7, 0, 2, 0), Due.STATE);
        Edge.is("ahead of place", x.layers(0, 0, 2, 2, 0), Due.STATE);
        Edge.is("behind bad", x.layers(0, 0, 0, 2, 10001), Due.BAD);
        Edge.is("it stays", x.kind(0), 3);
        x.strip();
        Edge.is("it hangs no more", x.layers(0, 0, 0, 2, 0), 4);
        Edge.of(7, "NULL");
        for (int s = 1; s <= 7; s++) Edge.is("sheet " + s, x.layers(1, s, 0, 2, 0), Due.NULL);
        Edge.is("ahead of place", x.layers(1, 1, -1, 2, 0), Due.NULL);
        Edge.of(7, "PLACE");
        for (int i : Edge.outside(0, 1)) Edge.is("from " + i, x.layers(1, 0, i, 2, 0), Due.PLACE);
        Edge.is("more than there are", x.layers(1, 0, 0, 4, 0), Due.PLACE);
        Edge.is("all that there are", x.layers(1, 0, 0, 3, 0), 4);
    }

    private static void layersOfWrongItems() {
        Edge.of(7, "then BAD: an ITEM is not 0 .. 10000");
        HollowPress x = new HollowPress();
        x.sheet(0, 2, 3);
        for (int at = 0; at < 3; at++) {
            for (int i = 0; i < 3; i++) x.set(0, i, 10000);
            for (long v : new long[] {10001, -1, (1L << 32) + 1, Long.MIN_VALUE, Long.MAX_VALUE}) {
                x.set(0, at, v);
                Edge.is("item " + at + " is " + v, x.layers(0, 0, 0, 3, 0), Due.BAD);
                Edge.is("place goes ahead", x.layers(0, 0, 2, 2, 0), Due.PLACE);
            }
        }
        Edge.is("nothing came", x.kind(0), Due.NULL);
        Edge.is("those ahead of it", x.layers(0, 0, 0, 2, 0), 4);
    }

    private static void clear() {
        HollowPress x = new HollowPress();
        Due.part(x, 0, 1, 1, 7);
        Due.layers(x, 9, 0, 1, 2);
        Edge.of(8, "A place is empty from now on: 1");
        Edge.is("a part", x.clear(0), 1);
        Edge.is("layers", x.clear(9), 1);
        Edge.is("nothing is there", x.count(1), 0);
        Edge.is("nothing is there", x.kind(0), Due.NULL);
        Edge.of(8, "0: it was");
        Edge.is("twice", x.clear(0), 0);
        Edge.is("never", x.clear(5), 0);
        Edge.of(8, "BAD");
        for (int p : Edge.outside(0, 9)) Edge.is("place " + p, x.clear(p), Due.BAD);
        Edge.of(8, "STATE likewise");
        Due.part(x, 3, 1, 1, 7);
        x.branch(Due.NONE, 1, 1);
        Edge.is("a branch alone holds nothing", x.clear(4), 0);
        x.hang(0, 3);
        Edge.is("hangs", x.clear(3), Due.STATE);
        Edge.is("it stays", x.kind(3), 3);
        x.strip();
        Edge.is("it hangs no more", x.clear(3), 1);
        Edge.is("it is gone", x.kind(3), Due.NULL);
    }

    private static void kindAndIs() {
        HollowPress x = new HollowPress();
        Due.part(x, 0, 1, 1, 7);
        Due.layers(x, 9, 0, 1, 2);
        Edge.of(9, "The KIND of a THING, as it is told");
        Edge.is("the first place", x.kind(0), 3);
        Edge.is("the last place", x.kind(9), 4);
        Edge.of(9, "BAD");
        for (int p : Edge.outside(0, 9)) Edge.is("place " + p, x.kind(p), Due.BAD);
        Edge.of(9, "NULL");
        for (int p = 1; p <= 8; p++) Edge.is("place " + p, x.kind(p), Due.NULL);
        Edge.of(10, "Whether a THING, as it is told, is of a KIND (0 .. 4): 1, 0");
        for (int k = 0; k <= 4; k++) Edge.is("a plate is " + k, x.is(0, k), k == 4 ? 0 : 1);
        for (int k = 0; k <= 4; k++) Edge.is("layers are " + k, x.is(9, k), k == 4 || k == 0 ? 1 : 0);
        Edge.of(10, "of nothing 0");
        for (int k = 0; k <= 4; k++) Edge.is("nothing is " + k, x.is(5, k), 0);
        Edge.of(10, "BAD");
        for (int p : Edge.outside(0, 9)) Edge.is("place " + p, x.is(p, 0), Due.BAD);
        for (int k : Edge.outside(0, 4)) {
            Edge.is("kind " + k, x.is(0, k), Due.BAD);
            Edge.is("kind " + k + " of nothing", x.is(5, k), Due.BAD);
        }
    }
}
