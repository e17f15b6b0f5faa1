/** Promises 13 to 19: what the calls about PARTS take and refuse. */
final class PartEdges {
    private static final int LAYERS = 8;

    private PartEdges() {
    }

    static void run() {
        gate();
        gateRefused();
        vent();
        cell();
        cellRefused();
        meeting();
        trap();
        force();
        best();
        bestRefused();
        partsByTurns();
    }

    /** Place 8 has layers; 9 is empty. */
    private static HollowPress withLayers() {
        HollowPress x = new HollowPress();
        Due.layers(x, LAYERS, 0, 1, 2);
        return x;
    }

    private static void gate() {
        HollowPress x = withLayers();
        Due.part(x, 0, 3, 2, 9, 0, 9, 9, 9, 9);
        Edge.of(13, "A CELL becomes a GATE: its number");
        Edge.is("the last cell", x.gate(0, 5), 0);
        Edge.is("the first cell", x.gate(0, 0), 1);
        Edge.is("its strain", x.cell(0, 0, 1), 6);
        Edge.is("its front", x.cell(0, 0, 2), 1);
        Edge.is("a vent may be one", x.vent(0, 2), 1);
        Edge.is("a vent may be one", x.gate(0, 2), 2);
        Edge.is("the fourth", x.gate(0, 3), 3);
        Edge.of(13, "FULL: 4");
        Edge.is("a fifth", x.gate(0, 4), Due.FULL);
        Edge.is("it is none", x.cell(0, 4, 1), 12);
        Edge.is("no cell goes ahead", x.gate(0, 1), Due.BAD);
        Edge.is("a gate goes ahead", x.gate(0, 5), Due.BAD);
        Edge.is("outside goes ahead", x.gate(0, 6), Due.BAD);
        Edge.is("another part has its own", Due.part(x, 1, 1, 1, 9), 3);
        Edge.is("another part has its own", x.gate(1, 0), 0);
        Edge.of(0, "It has GATES, CELLS, 4 at most, as they come, and VENTS, CELLS");
        int[] fronts = {1, Due.NONE, 2, 3, 0, 0};
        for (int c = 0; c < 6; c++) Edge.is("front " + c, x.cell(0, c, 2), fronts[c]);
        Edge.of(0, "none at first");
        Due.part(x, 0, 3, 1, 9, 9, 9);
        for (int c = 0; c < 3; c++) Edge.is("no gate, no strain", x.cell(0, c, 1), Due.NONE);
        for (int c = 0; c < 3; c++) Edge.is("no vent", x.vent(0, c), 1);
    }

    private static void gateRefused() {
        HollowPress x = withLayers();
        Due.part(x, 0, 2, 2, 9, 0, 9, 9);
        Edge.of(13, "BAD: place");
        for (int p : Edge.outside(0, 9)) Edge.is("place " + p, x.gate(p, 0), Due.BAD);
        Edge.of(13, "NULL");
        for (int c : new int[] {0, -1, 144}) Edge.is("cell " + c, x.gate(9, c), Due.NULL);
        Edge.of(13, "KIND");
        for (int c : new int[] {0, -1, 144}) Edge.is("cell " + c, x.gate(LAYERS, c), Due.KIND);
        Edge.of(13, "then BAD: no CELL, a GATE");
        for (int c : Edge.outside(0, 3)) Edge.is("cell " + c, x.gate(0, c), Due.BAD);
        Edge.is("a place without a cell", x.gate(0, 1), Due.BAD);
        Edge.is("none came", x.force(0, 0), Due.NONE);
        Edge.is("gate", x.gate(0, 2), 0);
        Edge.is("twice", x.gate(0, 2), Due.BAD);
        Edge.is("the next number", x.gate(0, 3), 1);
    }

    private static void vent() {
        HollowPress x = withLayers();
        Due.part(x, 0, 2, 2, 9, 0, 9, 9);
        Edge.of(14, "A CELL becomes a VENT (1), or is none any more (0): which");
        for (int turn = 0; turn < 3; turn++) {
            Edge.is("the first cell", x.vent(0, 0), 1 - turn % 2);
            Edge.is("the last cell", x.vent(0, 3), 1 - turn % 2);
        }
        Edge.is("the one between", x.vent(0, 2), 1);
        x.gate(0, 2);
        Edge.is("all are vents", x.trap(0, 0), Due.NONE);
        x.vent(0, 0);
        Edge.is("this one no more", x.trap(0, 0), 0);
        Edge.is("a gate may be none any more", x.vent(0, 2), 0);
        Edge.is("and be one", x.vent(0, 2), 1);
        Edge.of(14, "BAD: place");
        for (int p : Edge.outside(0, 9)) Edge.is("place " + p, x.vent(p, 0), Due.BAD);
        Edge.of(14, "NULL");
        for (int c : new int[] {0, -1, 144}) Edge.is("cell " + c, x.vent(9, c), Due.NULL);
        Edge.of(14, "KIND");
        for (int c : new int[] {0, -1, 144}) Edge.is("cell " + c, x.vent(LAYERS, c), Due.KIND);
        Edge.of(14, "then BAD: no CELL");
        for (int c : Edge.outside(0, 3)) Edge.is("cell " + c, x.vent(0, c), Due.BAD);
        Edge.is("a place without a cell", x.vent(0, 1), Due.BAD);
        Edge.is("still", x.vent(0, 1), Due.BAD);
    }

    private static void cell() {
        HollowPress x = withLayers();
        Due.part(x, 0, 5, 1, 9, 8, 0, 7, 0);
        Edge.of(15, "Of a CELL: 0 its thickness (0: no CELL), 1 its STRAIN (NONE), 2 its FRONT (NONE), "
            + "3 its place in THE ORDER (NONE), 4 how much is in all up to it, thickness by thickness (NONE)");
        for (int what = 1; what <= 4; what++) {
            for (int c = 0; c < 5; c++) Edge.is("no gates", x.cell(0, c, what), Due.NONE);
        }
        x.gate(0, 1);
        int[][] due = {{9, 8, 0, 7, 0}, {15, 9, Due.NONE, Due.NONE, Due.NONE}, {0, 0, Due.NONE, Due.NONE, Due.NONE},
            {1, 0, Due.NONE, Due.NONE, Due.NONE}, {17, 8, Due.NONE, Due.NONE, Due.NONE}};
        for (int what = 0; what <= 4; what++) {
            for (int c = 0; c < 5; c++) Edge.is("cell " + c + " " + what, x.cell(0, c, what), due[what][c]);
        }
        x.gate(0, 3);
        int[] last = {14, 1, 1, 15};
        for (int what = 1; what <= 4; what++) Edge.is("with a gate " + what, x.cell(0, 3, what), last[what - 1]);
        Edge.is("its place is behind", x.cell(0, 0, 3), 2);
        Edge.is("all is in", x.cell(0, 0, 4), 24);
    }

    private static void cellRefused() {
        HollowPress x = withLayers();
        Due.part(x, 0, 2, 2, 9, 0, 9, 9);
        Edge.of(15, "BAD: place, what");
        for (int p : Edge.outside(0, 9)) Edge.is("place " + p, x.cell(p, 0, 0), Due.BAD);
        for (int what : Edge.outside(0, 4)) {
            Edge.is("what " + what, x.cell(0, 0, what), Due.BAD);
            Edge.is("what " + what + " of nothing", x.cell(9, 0, what), Due.BAD);
            Edge.is("what " + what + " of layers", x.cell(LAYERS, 0, what), Due.BAD);
        }
        for (int what = 0; what <= 4; what++) {
            Edge.of(15, "NULL");
            for (int c : new int[] {0, -1, 144}) Edge.is("cell " + c, x.cell(9, c, what), Due.NULL);
            Edge.of(15, "KIND");
            for (int c : new int[] {0, -1, 144}) Edge.is("cell " + c, x.cell(LAYERS, c, what), Due.KIND);
            Edge.of(15, "then BAD: cell");
            for (int c : Edge.outside(0, 3)) Edge.is("cell " + c, x.cell(0, c, what), Due.BAD);
        }
    }

    private static void meeting() {
        HollowPress x = withLayers();
        Due.part(x, 0, 4, 1, 9, 9, 9, 9);
        Edge.of(16, "NONE: there are not so many");
        Edge.is("no gates", x.meeting(0, 0, 0), Due.NONE);
        x.gate(0, 0);
        Edge.is("one gate", x.meeting(0, 0, 1), Due.NONE);
        x.gate(0, 3);
        for (int i : Edge.outside(0, 0)) Edge.is("meeting " + i, x.meeting(0, i, 0), Due.NONE);
        for (int i : Edge.outside(0, 0)) Edge.is("meeting " + i, x.meeting(0, i, 1), Due.NONE);
        Edge.of(16, "MEETING i: 0 the first CELL, 1 the second");
        Edge.is("the first", x.meeting(0, 0, 0), 1);
        Edge.is("the second", x.meeting(0, 0, 1), 2);
        x.gate(0, 1);
        x.gate(0, 2);
        for (int i = 0; i < 3; i++) {
            Edge.is("all are gates: the first of " + i, x.meeting(0, i, 0), i);
            Edge.is("all are gates: the second of " + i, x.meeting(0, i, 1), i + 1);
        }
        Edge.of(16, "BAD: place, which");
        for (int p : Edge.outside(0, 9)) Edge.is("place " + p, x.meeting(p, 0, 0), Due.BAD);
        for (int which : Edge.outside(0, 1)) {
            Edge.is("which " + which, x.meeting(0, 0, which), Due.BAD);
            Edge.is("which " + which + " of none", x.meeting(0, 9, which), Due.BAD);
            Edge.is("which " + which + " of nothing", x.meeting(9, 0, which), Due.BAD);
            Edge.is("which " + which + " of layers", x.meeting(LAYERS, 0, which), Due.BAD);
        }
        Edge.of(16, "NULL");
        for (int i : new int[] {0, -1, 999}) Edge.is("meeting " + i, x.meeting(9, i, 0), Due.NULL);
        Edge.of(16, "KIND");
        for (int i : new int[] {0, -1, 999}) Edge.is("meeting " + i, x.meeting(LAYERS, i, 1), Due.KIND);
    }

    private static void trap() {
        HollowPress x = withLayers();
        Due.part(x, 0, 3, 1, 9, 9, 9);
        Edge.of(17, "NONE: there are not so many");
        Edge.is("no gates", x.trap(0, 0), Due.NONE);
        x.gate(0, 1);
        for (int i : Edge.outside(0, 1)) Edge.is("trap " + i, x.trap(0, i), Due.NONE);
        Edge.of(17, "TRAP i");
        Edge.is("trap 0", x.trap(0, 0), 0);
        Edge.is("trap 1", x.trap(0, 1), 2);
        Edge.of(17, "BAD");
        for (int p : Edge.outside(0, 9)) Edge.is("place " + p, x.trap(p, 0), Due.BAD);
        Edge.of(17, "NULL");
        for (int i : new int[] {0, -1, 999}) Edge.is("trap " + i, x.trap(9, i), Due.NULL);
        Edge.of(17, "KIND");
        for (int i : new int[] {0, -1, 999}) Edge.is("trap " + i, x.trap(LAYERS, i), Due.KIND);
    }

    private static void force() {
        HollowPress x = withLayers();
        Due.part(x, 0, 4, 1, 9, 8, 0, 7);
        Edge.of(18, "NONE: there are not so many");
        Edge.is("no gates", x.force(0, 0), Due.NONE);
        x.gate(0, 1);
        for (int i : Edge.outside(0, 1)) Edge.is("force " + i, x.force(0, i), Due.NONE);
        Edge.of(18, "FORCE as CELL i of THE ORDER is filled");
        Edge.is("force 0", x.force(0, 0), 0);
        Edge.is("force 1", x.force(0, 1), 6);
        Edge.of(18, "BAD as a long");
        for (int p : Edge.outside(0, 9)) Edge.is("place " + p, x.force(p, 0), -1000001L);
        Edge.of(18, "NULL");
        for (int i : new int[] {0, -1, 999}) Edge.is("force " + i, x.force(9, i), Due.NULL);
        Edge.of(18, "KIND");
        for (int i : new int[] {0, -1, 999}) Edge.is("force " + i, x.force(LAYERS, i), Due.KIND);
    }

    private static void best() {
        HollowPress x = withLayers();
        Edge.of(19, "The first CELL, by places, that as the one GATE would let no CELL be without STRAIN, with ENDS least (of several the first)");
        best(x, 1, 1, 0, 9);
        best(x, 2, 1, 0, 9, 9);
        best(x, 1, 2, 0, 9, 9);
        best(x, 2, 2, 0, 9, 9, 9, 9);
        best(x, 4, 1, 1, 9, 9, 9, 9);
        best(x, 3, 1, 2, 0, 0, 9);
        best(x, 4, 1, 2, 9, 9, 9, 1);
        best(x, 4, 1, 1, 1, 9, 9, 9);
        best(x, 3, 1, 1, 1, 9, 1);
        long[] thick = new long[144];
        for (int i = 0; i < 144; i++) thick[i] = 1;
        best(x, 12, 12, 5 * 12 + 5, thick);
        best(x, 3, 3, 1, 9, 9, 9, 9, 0, 9, 9, 0, 9);
        Edge.of(19, "NONE: there is none such");
        best(x, 3, 1, Due.NONE, 9, 0, 9);
        best(x, 2, 2, Due.NONE, 9, 0, 0, 9);
        best(x, 2, 2, Due.NONE, 0, 9, 9, 0);
        best(x, 3, 2, Due.NONE, 0, 0, 9, 9, 0, 0);
        best(x, 4, 1, Due.NONE, 9, 9, 0, 9);
        best(x, 4, 1, Due.NONE, 9, 0, 9, 9);
    }

    /** Once as the part is new, once more with the answer known, and once with a gate. */
    private static void best(HollowPress x, int w, int h, int due, long... items) {
        Due.part(x, 0, w, h, items);
        Edge.is("best", x.best(0), due);
        Edge.is("again", x.best(0), due);
        int last = items.length - 1;
        x.gate(0, last);
        Edge.is("with a gate", x.best(0), due);
    }

    private static void bestRefused() {
        HollowPress x = withLayers();
        Edge.of(19, "BAD");
        for (int p : Edge.outside(0, 9)) Edge.is("place " + p, x.best(p), Due.BAD);
        Edge.of(19, "NULL");
        Edge.is("an empty place", x.best(9), Due.NULL);
        Edge.of(19, "KIND");
        Edge.is("layers", x.best(LAYERS), Due.KIND);
        Edge.of(19, "GATES stay");
        Due.part(x, 0, 3, 1, 9, 9, 9);
        Edge.is("best", x.best(0), 1);
        Edge.is("none has become one", x.cell(0, 1, 1), Due.NONE);
        x.gate(0, 2);
        x.gate(0, 0);
        Edge.is("best", x.best(0), 1);
        int[] strains = {6, 12, 6};
        int[] fronts = {1, 0, 0};
        for (int c = 0; c < 3; c++) Edge.is("strain " + c, x.cell(0, c, 1), strains[c]);
        for (int c = 0; c < 3; c++) Edge.is("front " + c, x.cell(0, c, 2), fronts[c]);
        Edge.is("the next number", x.gate(0, 1), 2);
    }

    /** Each call is about its own part, whatever was asked of another one or of the same one ahead of it. */
    private static void partsByTurns() {
        HollowPress x = withLayers();
        Due.part(x, 0, 4, 1, 9, 9, 9, 9);
        Due.part(x, 1, 3, 1, 8, 8, 8);
        x.gate(0, 0);
        x.gate(1, 0);
        Edge.of(19, "GATES stay");
        Edge.is("best of the one asked last", x.best(1), 1);
        Edge.is("its strain is from its gate", x.cell(1, 2, 1), 27);
        Edge.of(18, "FORCE as CELL i of THE ORDER is filled");
        Edge.is("one", x.force(0, 3), 18 + 12 + 6);
        Edge.is("the other", x.force(1, 2), 18 + 9);
        Edge.is("it has no more", x.force(1, 3), Due.NONE);
        Edge.of(15, "1 its STRAIN (NONE)");
        Edge.is("one", x.cell(0, 1, 1), 12);
        Edge.is("the other", x.cell(1, 1, 1), 18);
        Edge.of(17, "TRAP i");
        Edge.is("one", x.trap(0, 0), 3);
        Edge.is("the other", x.trap(1, 0), 2);
        Edge.of(16, "MEETING i: 0 the first CELL, 1 the second");
        x.gate(0, 3);
        x.gate(1, 2);
        Edge.is("one", x.meeting(0, 0, 1), 2);
        Edge.is("the other", x.meeting(1, 0, 1), 2);
        Edge.is("one", x.meeting(0, 0, 0), 1);
        Edge.is("the other", x.meeting(1, 0, 0), 1);
    }
}
