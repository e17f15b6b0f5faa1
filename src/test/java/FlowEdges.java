/** What the terms say of how a PART fills. */
final class FlowEdges {
    private FlowEdges() {
    }

    static void run() {
        neighbours();
        drag();
        strain();
        noWay();
        front();
        order();
        ends();
        meetings();
        traps();
        force();
        greatestForce();
    }

    private static void neighbours() {
        Edge.of(0, "NEIGHBOURS of a CELL are the CELLS beside, above, below");
        HollowPress x = new HollowPress();
        Due.part(x, 0, 3, 3, 9, 9, 9, 9, 9, 9, 9, 9, 9);
        x.gate(0, 4);
        strains(x, 18, 12, 18, 12, 6, 12, 18, 12, 18);
        Due.part(x, 0, 3, 2, 0, 0, 9, 9, 0, 0);
        x.gate(0, 2);
        strains(x, Due.NONE, Due.NONE, 6, Due.NONE, Due.NONE, Due.NONE);
        Due.part(x, 0, 2, 2, 9, 0, 0, 9);
        x.gate(0, 0);
        strains(x, 6, Due.NONE, Due.NONE, Due.NONE);
        long[] wide = new long[144];
        wide[11] = 9;
        wide[12] = 9;
        wide[131] = 9;
        wide[143] = 9;
        Due.part(x, 0, 12, 12, wide);
        x.gate(0, 11);
        Edge.is("not over the edge of a row", x.cell(0, 12, 1), Due.NONE);
        Edge.is("not from the last row to the first", x.cell(0, 143, 1), Due.NONE);
        x.gate(0, 143);
        Edge.is("above in the last row", x.cell(0, 131, 1), 12);
    }

    private static void drag() {
        Edge.of(0, "A CELL's DRAG: 5000 by its thickness three times, cut");
        HollowPress x = new HollowPress();
        int[] due = {5000, 625, 185, 78, 40, 23, 14, 9, 6};
        for (int t = 1; t <= 9; t++) {
            Due.part(x, 0, 2, 1, t, t);
            x.gate(0, 1);
            strains(x, 2 * due[t - 1], due[t - 1]);
        }
    }

    private static void strain() {
        Edge.of(0, "STRAIN of a CELL: the least sum of the DRAGS of the CELLS of a way from a GATE (its own, too) to it (its own, too), by NEIGHBOURS");
        HollowPress x = new HollowPress();
        Due.part(x, 0, 3, 3, 9, 1, 9, 9, 0, 9, 9, 9, 9);
        x.gate(0, 0);
        strains(x, 6, 5006, 42, 12, Due.NONE, 36, 18, 24, 30);
        Due.part(x, 0, 2, 1, 1, 9);
        x.gate(0, 0);
        x.gate(0, 1);
        strains(x, 5000, 6);
        Due.part(x, 0, 3, 1, 1, 9, 2);
        x.gate(0, 0);
        x.gate(0, 2);
        strains(x, 5000, 631, 625);
        Due.part(x, 0, 3, 1, 1, 9, 9);
        x.gate(0, 0);
        strains(x, 5000, 5006, 5012);
        x.gate(0, 2);
        strains(x, 5000, 12, 6);
        longest(x);
    }

    /** One way, back and forth through all rows: 78 cells of the thinnest kind. */
    private static void longest(HollowPress x) {
        long[] snake = new long[144];
        int length = 0;
        for (int y = 0; y < 12; y++) {
            for (int i = 0; i < 12; i++) {
                boolean turn = i == (y % 4 == 1 ? 11 : 0);
                if (y % 2 == 1 && !turn) continue;
                snake[12 * y + i] = 1;
                length++;
            }
        }
        Due.part(x, 0, 12, 12, snake);
        x.gate(0, 0);
        Edge.is("the end of the way", x.cell(0, 132, 1), length * 5000L);
        Edge.is("it is the last one", x.cell(0, 132, 3), length - 1);
        Edge.is("all is in", x.cell(0, 132, 4), length);
        Edge.is("its force", x.force(0, length - 1), 5000L * length * (length - 1) / 2);
    }

    private static void noWay() {
        Edge.of(0, "none, if there is no way");
        HollowPress x = new HollowPress();
        Due.part(x, 0, 3, 1, 9, 0, 9);
        strains(x, Due.NONE, Due.NONE, Due.NONE);
        x.gate(0, 2);
        strains(x, Due.NONE, Due.NONE, 6);
        x.gate(0, 0);
        strains(x, 6, Due.NONE, 6);
    }

    private static void front() {
        Edge.of(0, "Its FRONT: the least number of a GATE from which there is a way of that sum");
        HollowPress x = new HollowPress();
        Due.part(x, 0, 3, 1, 9, 9, 9);
        x.gate(0, 2);
        x.gate(0, 0);
        fronts(x, 1, 0, 0);
        Due.part(x, 0, 3, 1, 9, 9, 9);
        x.gate(0, 0);
        x.gate(0, 2);
        fronts(x, 0, 0, 1);
        Due.part(x, 0, 3, 3, 0, 9, 0, 9, 9, 9, 0, 9, 0);
        int[] gates = {7, 5, 3, 1};
        for (int g : gates) x.gate(0, g);
        fronts(x, Due.NONE, 3, Due.NONE, 2, 0, 1, Due.NONE, 0, Due.NONE);
        Due.part(x, 0, 5, 1, 9, 9, 9, 9, 9);
        x.gate(0, 0);
        x.gate(0, 3);
        fronts(x, 0, 0, 1, 1, 1);
        Due.part(x, 0, 4, 1, 2, 9, 9, 1);
        x.gate(0, 3);
        x.gate(0, 0);
        fronts(x, 1, 1, 1, 0);
    }

    private static void order() {
        Edge.of(0, "THE ORDER: CELLS with a STRAIN, by that, then by places");
        HollowPress x = new HollowPress();
        Due.part(x, 0, 3, 3, 9, 9, 9, 9, 9, 9, 9, 0, 9);
        x.gate(0, 4);
        ranks(x, 4, 1, 5, 2, 0, 3, 6, Due.NONE, 7);
        x.gate(0, 8);
        ranks(x, 5, 2, 6, 3, 0, 4, 7, Due.NONE, 1);
        Due.part(x, 0, 4, 1, 9, 0, 9, 9);
        x.gate(0, 3);
        ranks(x, Due.NONE, Due.NONE, 1, 0);
    }

    /** Only END of a PART that hangs tells ENDS. */
    private static void ends() {
        Edge.of(0, "ENDS: the greatest STRAIN");
        HollowPress x = new HollowPress();
        Due.part(x, 0, 5, 1, 9, 9, 9, 0, 1);
        x.branch(Due.NONE, 1, 9);
        x.hang(0, 0);
        Edge.is("no gates", x.end(0), 6);
        x.gate(0, 0);
        Edge.is("a cell without strain is left out", x.end(0), 6 + 18);
        x.gate(0, 1);
        Edge.is("a gate more", x.end(0), 6 + 12);
        x.gate(0, 4);
        Edge.is("now it is the greatest", x.end(0), 6 + 5000);
    }

    private static void meetings() {
        Edge.of(0, "MEETINGS: pairs of NEIGHBOURS of unlike FRONTS, by the place of the first one, the one beside ahead of the one below");
        HollowPress x = new HollowPress();
        Due.part(x, 0, 2, 2, 9, 9, 9, 9);
        for (int g = 0; g < 3; g++) x.gate(0, g);
        meetings(x, 0, 1, 0, 2, 2, 3);
        x.gate(0, 3);
        meetings(x, 0, 1, 0, 2, 1, 3, 2, 3);
        Due.part(x, 0, 3, 1, 9, 0, 9);
        x.gate(0, 0);
        x.gate(0, 2);
        meetings(x);
        Due.part(x, 0, 3, 2, 9, 9, 9, 9, 9, 9);
        x.gate(0, 2);
        x.gate(0, 3);
        meetings(x, 0, 1, 1, 4, 4, 5);
        Due.part(x, 0, 4, 1, 9, 9, 0, 9);
        x.gate(0, 0);
        meetings(x);
    }

    private static void traps() {
        Edge.of(0, "TRAPS: CELLS with a STRAIN, no VENTS, all NEIGHBOURS of which with a STRAIN stand ahead of them in THE ORDER, by places");
        HollowPress x = new HollowPress();
        Due.part(x, 0, 3, 3, 9, 9, 9, 9, 9, 9, 9, 9, 9);
        x.gate(0, 4);
        traps(x, 0, 2, 6, 8);
        x.vent(0, 0);
        x.vent(0, 8);
        traps(x, 2, 6);
        x.vent(0, 4);
        traps(x, 2, 6);
        Due.part(x, 0, 1, 1, 9);
        traps(x);
        x.gate(0, 0);
        traps(x, 0);
        Due.part(x, 0, 3, 1, 9, 0, 9);
        x.gate(0, 2);
        traps(x, 2);
        Due.part(x, 0, 4, 1, 9, 9, 9, 9);
        x.gate(0, 0);
        x.gate(0, 3);
        traps(x, 2);
        x.gate(0, 1);
        x.gate(0, 2);
        traps(x, 3);
    }

    private static void force() {
        Edge.of(0, "FORCE as CELL c of THE ORDER is filled: the sum over all CELLS up to it of its STRAIN less theirs");
        HollowPress x = new HollowPress();
        Due.part(x, 0, 3, 1, 9, 8, 1);
        x.gate(0, 1);
        Edge.is("the first", x.force(0, 0), 0);
        Edge.is("the second", x.force(0, 1), 6);
        Edge.is("the third", x.force(0, 2), 5000 + 4994);
        Due.part(x, 0, 3, 1, 9, 9, 9);
        x.gate(0, 1);
        Edge.is("of two alike the first", x.force(0, 1), 6);
        Edge.is("of two alike the second", x.force(0, 2), 6);
    }

    private static void greatestForce() {
        Edge.of(0, "the greatest one is at the last");
        HollowPress x = new HollowPress();
        long[] thin = new long[144];
        for (int i = 0; i < 144; i++) thin[i] = 1 + i % 2;
        Due.part(x, 0, 12, 12, thin);
        x.gate(0, 0);
        long before = 0;
        for (int i = 0; i < 144; i++) {
            long now = x.force(0, i);
            Edge.is("not less than the one ahead " + i, now >= before ? 1 : 0, 1);
            before = now;
        }
        Edge.is("none behind it", x.force(0, 144), Due.NONE);
    }

    private static void strains(HollowPress x, int... due) {
        for (int c = 0; c < due.length; c++) Edge.is("strain " + c, x.cell(0, c, 1), due[c]);
    }

    private static void fronts(HollowPress x, int... due) {
        for (int c = 0; c < due.length; c++) Edge.is("front " + c, x.cell(0, c, 2), due[c]);
    }

    private static void ranks(HollowPress x, int... due) {
        for (int c = 0; c < due.length; c++) Edge.is("place in the order " + c, x.cell(0, c, 3), due[c]);
    }

    private static void meetings(HollowPress x, int... due) {
        for (int k = 0; k < due.length; k++) Edge.is("meeting " + k / 2, x.meeting(0, k / 2, k % 2), due[k]);
        Edge.is("no more", x.meeting(0, due.length / 2, 0), Due.NONE);
    }

    private static void traps(HollowPress x, int... due) {
        for (int i = 0; i < due.length; i++) Edge.is("trap " + i, x.trap(0, i), due[i]);
        Edge.is("no more", x.trap(0, due.length), Due.NONE);
    }
}
