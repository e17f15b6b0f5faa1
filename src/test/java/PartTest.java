/** Promises 13 to 19: gate, vent, cell, meeting, trap, force, best. */
public final class PartTest {
    private static final int MIN = Integer.MIN_VALUE, MAX = Integer.MAX_VALUE;

    public static void main(String[] args) {
        gate();
        vent();
        drags();
        cell();
        leastNotShortest();
        orderOfEqualStrains();
        meeting();
        fronts();
        trap();
        force();
        best();
        refusedAlike();
        Due.end();
    }

    private static void gate() {
        HollowPress x = new HollowPress();
        Due.part(x, 0, 3, 2, 1, 0, 1, 2, 3, 4);
        Due.is("no cell", x.gate(0, 1), Due.BAD);
        int[] wrong = {-1, 6, MIN, MAX};
        for (int c : wrong) Due.is("gate " + c, x.gate(0, c), Due.BAD);
        Due.is("gate", x.gate(0, 5), 0);
        Due.is("again", x.gate(0, 5), Due.BAD);
        Due.is("second", x.gate(0, 0), 1);
        Due.is("third", x.gate(0, 2), 2);
        Due.is("fourth", x.gate(0, 3), 3);
        Due.is("empty", x.kind(9), Due.NULL);
        Due.is("fifth", x.gate(0, 4), Due.FULL);
        Due.is("bad goes ahead of full", x.gate(0, 1), Due.BAD);
        Due.is("a gate goes ahead of full", x.gate(0, 3), Due.BAD);
        Due.is("outside goes ahead of full", x.gate(0, 6), Due.BAD);
        Due.is("status stays", x.status(), 1);
        Due.is("refused changes nothing", x.cell(0, 4, 2), 0);
        Due.is("fronts by numbers", x.cell(0, 0, 2), 1);
        Due.is("fronts by numbers", x.cell(0, 2, 2), 2);
        Due.is("status", x.status(), 0);
        Due.part(x, 1, 1, 1, 9);
        Due.is("another part has its own", x.gate(1, 0), 0);
    }

    private static void vent() {
        HollowPress x = new HollowPress();
        Due.part(x, 0, 3, 1, 1, 0, 2);
        Due.is("vent", x.vent(0, 0), 1);
        Due.is("vent", x.vent(0, 2), 1);
        Due.is("none any more", x.vent(0, 0), 0);
        Due.is("vent", x.vent(0, 0), 1);
        Due.is("the other stays", x.vent(0, 2), 0);
        Due.is("empty", x.kind(9), Due.NULL);
        Due.is("no cell", x.vent(0, 1), Due.BAD);
        int[] wrong = {-1, 3, MIN, MAX};
        for (int c : wrong) Due.is("vent " + c, x.vent(0, c), Due.BAD);
        Due.is("status stays", x.status(), 1);
    }

    private static void drags() {
        HollowPress x = new HollowPress();
        int[] due = {5000, 625, 185, 78, 40, 23, 14, 9, 6};
        for (int t = 1; t <= 9; t++) {
            Due.part(x, 0, 1, 1, t);
            x.gate(0, 0);
            Due.is("drag of " + t, x.cell(0, 0, 1), due[t - 1]);
        }
        long[] thin = new long[144];
        for (int i = 0; i < 144; i++) thin[i] = 1;
        Due.part(x, 0, 12, 12, thin);
        x.gate(0, 0);
        Due.is("far corner", x.cell(0, 143, 1), 23 * 5000);
        Due.is("last in order", x.cell(0, 143, 3), 143);
        Due.is("all is in", x.cell(0, 143, 4), 144);
    }

    private static void cell() {
        HollowPress x = new HollowPress();
        Due.part(x, 0, 3, 2, 9, 0, 9, 8, 0, 7);
        for (int what = 1; what <= 4; what++) {
            for (int c = 0; c < 6; c++) Due.is("without gates", x.cell(0, c, what), Due.NONE);
        }
        Due.is("status", x.status(), 0);
        x.gate(0, 3);
        Due.row("thickness", cells(x, 0, 6, 0), 9, 0, 9, 8, 0, 7);
        Due.row("strain", cells(x, 0, 6, 1), 15, Due.NONE, Due.NONE, 9, Due.NONE, Due.NONE);
        Due.row("front", cells(x, 0, 6, 2), 0, Due.NONE, Due.NONE, 0, Due.NONE, Due.NONE);
        Due.row("order", cells(x, 0, 6, 3), 1, Due.NONE, Due.NONE, 0, Due.NONE, Due.NONE);
        Due.row("in all", cells(x, 0, 6, 4), 17, Due.NONE, Due.NONE, 8, Due.NONE, Due.NONE);
        x.gate(0, 2);
        Due.row("strain", cells(x, 0, 6, 1), 15, Due.NONE, 6, 9, Due.NONE, 20);
        Due.row("front", cells(x, 0, 6, 2), 0, Due.NONE, 1, 0, Due.NONE, 1);
        Due.row("order", cells(x, 0, 6, 3), 2, Due.NONE, 0, 1, Due.NONE, 3);
        Due.row("in all", cells(x, 0, 6, 4), 26, Due.NONE, 9, 17, Due.NONE, 33);
        int[] wrong = {-1, 6, MIN, MAX};
        for (int c : wrong) {
            for (int what = 0; what <= 4; what++) Due.is("cell " + c, x.cell(0, c, what), Due.BAD);
        }
        int[] wrongAsks = {-1, 5, MIN, MAX};
        for (int what : wrongAsks) Due.is("what " + what, x.cell(0, 0, what), Due.BAD);
        Due.is("bad what goes ahead of null", x.cell(1, 0, 5), Due.BAD);
        Due.is("null goes ahead of a bad cell", x.cell(1, -1, 0), Due.NULL);
        Due.layers(x, 1, 0, 1, 2);
        Due.is("kind goes ahead of a bad cell", x.cell(1, -1, 0), Due.KIND);
        twoPartsByTurns(x);
    }

    private static void twoPartsByTurns(HollowPress x) {
        Due.part(x, 2, 2, 1, 9, 9);
        Due.part(x, 3, 2, 1, 8, 8);
        x.gate(2, 0);
        x.gate(3, 1);
        for (int turn = 0; turn < 2; turn++) {
            Due.row("one", cells(x, 2, 2, 1), 6, 12);
            Due.is("best between", x.best(3), 0);
            Due.row("other", cells(x, 3, 2, 1), 18, 9);
            Due.is("best between", x.best(3), 0);
        }
        Due.is("gates stay", x.cell(3, 1, 1), 9);
    }

    private static void leastNotShortest() {
        HollowPress x = new HollowPress();
        Due.part(x, 0, 3, 3, 9, 1, 9, 9, 0, 9, 9, 9, 9);
        x.gate(0, 0);
        Due.row("the long way round", cells(x, 0, 9, 1), 6, 5006, 42, 12, Due.NONE, 36, 18, 24, 30);
        spiral();
    }

    private static void spiral() {
        HollowPress x = new HollowPress();
        Due.part(x, 0, 5, 5,
            9, 9, 9, 9, 9,
            0, 0, 0, 0, 9,
            9, 9, 9, 0, 9,
            9, 0, 0, 0, 9,
            9, 9, 9, 9, 9);
        x.gate(0, 12);
        Due.is("end of the spiral", x.cell(0, 0, 1), 17 * 6);
        Due.is("last", x.cell(0, 0, 3), 16);
        Due.is("best is in the middle", x.best(0), 24);
    }

    private static void orderOfEqualStrains() {
        HollowPress x = new HollowPress();
        Due.part(x, 0, 3, 3, 9, 9, 9, 9, 9, 9, 9, 9, 9);
        x.gate(0, 8);
        x.gate(0, 0);
        Due.row("by strain, then by places", cells(x, 0, 9, 3), 0, 2, 6, 3, 7, 4, 8, 5, 1);
        Due.row("a tie goes to the least number", cells(x, 0, 9, 2), 1, 1, 0, 1, 0, 0, 0, 0, 0);
    }

    private static void meeting() {
        HollowPress x = new HollowPress();
        Due.part(x, 0, 3, 3, 9, 9, 9, 9, 9, 9, 9, 9, 9);
        Due.is("without gates", x.meeting(0, 0, 0), Due.NONE);
        x.gate(0, 8);
        Due.is("with one gate", x.meeting(0, 0, 0), Due.NONE);
        x.gate(0, 0);
        int[][] due = {{1, 2}, {1, 4}, {3, 4}, {3, 6}};
        for (int i = 0; i < due.length; i++) {
            Due.is("first of " + i, x.meeting(0, i, 0), due[i][0]);
            Due.is("second of " + i, x.meeting(0, i, 1), due[i][1]);
        }
        int[] beyond = {4, 5, 1000, MAX, -1, MIN};
        for (int i : beyond) {
            Due.is("meeting " + i, x.meeting(0, i, 0), Due.NONE);
            Due.is("meeting " + i, x.meeting(0, i, 1), Due.NONE);
        }
        Due.is("status", x.status(), 0);
        int[] wrong = {-1, 2, MIN, MAX};
        for (int which : wrong) {
            Due.is("which " + which, x.meeting(0, 0, which), Due.BAD);
            Due.is("bad goes ahead of null", x.meeting(5, 0, which), Due.BAD);
        }
        Due.part(x, 1, 2, 2, 9, 9, 9, 9);
        x.gate(1, 1);
        x.gate(1, 2);
        Due.is("beside ahead of below", x.meeting(1, 0, 1), 2);
        Due.is("none over a gap", Due.part(x, 2, 3, 1, 9, 0, 9), 2);
        x.gate(2, 0);
        x.gate(2, 2);
        Due.is("none over a gap", x.meeting(2, 0, 0), Due.NONE);
        Due.part(x, 3, 2, 2, 9, 9, 9, 9);
        x.gate(3, 0);
        x.gate(3, 3);
        x.gate(3, 1);
        Due.is("beside", x.meeting(3, 0, 1), 1);
        Due.is("below", x.meeting(3, 1, 0), 1);
        Due.is("below", x.meeting(3, 1, 1), 3);
        Due.is("last row", x.meeting(3, 2, 0), 2);
        Due.is("last row", x.meeting(3, 2, 1), 3);
        Due.is("no more", x.meeting(3, 3, 0), Due.NONE);
    }

    private static void fronts() {
        HollowPress x = new HollowPress();
        Due.part(x, 0, 5, 1, 9, 9, 9, 9, 9);
        x.gate(0, 4);
        x.gate(0, 0);
        Due.row("the middle has a way of that sum from both", cells(x, 0, 5, 2), 1, 1, 0, 0, 0);
        Due.part(x, 0, 5, 1, 9, 9, 9, 9, 9);
        x.gate(0, 0);
        x.gate(0, 4);
        Due.row("the middle has a way of that sum from both", cells(x, 0, 5, 2), 0, 0, 0, 1, 1);
        Due.part(x, 0, 1, 7, 9, 9, 9, 9, 9, 9, 9);
        x.gate(0, 3);
        x.gate(0, 6);
        x.gate(0, 0);
        x.gate(0, 1);
        Due.row("four fronts", cells(x, 0, 7, 2), 2, 3, 0, 0, 0, 1, 1);
    }

    private static void trap() {
        HollowPress x = new HollowPress();
        Due.part(x, 0, 3, 3, 9, 9, 9, 9, 9, 9, 9, 9, 9);
        Due.is("without gates", x.trap(0, 0), Due.NONE);
        x.gate(0, 4);
        traps(x, 0, 0, 2, 6, 8);
        x.vent(0, 2);
        traps(x, 0, 0, 6, 8);
        x.vent(0, 0);
        x.vent(0, 8);
        traps(x, 0, 6);
        x.vent(0, 2);
        traps(x, 0, 2, 6);
        Due.part(x, 1, 1, 1, 5);
        traps(x, 1);
        x.gate(1, 0);
        traps(x, 1, 0);
        Due.part(x, 2, 2, 1, 9, 9);
        x.gate(2, 0);
        x.gate(2, 1);
        traps(x, 2, 1);
        Due.part(x, 3, 5, 1, 9, 9, 0, 9, 9);
        x.gate(3, 1);
        traps(x, 3, 0);
        Due.is("status", x.status(), 0);
    }

    private static void traps(HollowPress x, int place, int... due) {
        for (int i = 0; i < due.length; i++) Due.is("trap " + i, x.trap(place, i), due[i]);
        int[] beyond = {due.length, due.length + 1, 144, MAX, -1, MIN};
        for (int i : beyond) Due.is("trap " + i, x.trap(place, i), Due.NONE);
    }

    private static void force() {
        HollowPress x = new HollowPress();
        Due.part(x, 0, 4, 1, 9, 8, 7, 1);
        Due.is("without gates", x.force(0, 0), Due.NONE);
        x.gate(0, 0);
        Due.is("force 0", x.force(0, 0), 0);
        Due.is("force 1", x.force(0, 1), 9);
        Due.is("force 2", x.force(0, 2), 23 + 14);
        Due.is("force 3", x.force(0, 3), 5023 + 5014 + 5000);
        Due.is("status", x.status(), 0);
        int[] beyond = {4, 143, 144, MAX, -1, MIN};
        for (int i : beyond) Due.is("force " + i, x.force(0, i), Due.NONE);
        int[] wrong = {-1, 10, MIN, MAX};
        for (int p : wrong) Due.is("force of " + p, x.force(p, 0), Due.BAD);
        long[] thin = new long[144];
        for (int i = 0; i < 144; i++) thin[i] = 1;
        Due.part(x, 0, 12, 12, thin);
        x.gate(0, 0);
        Due.is("the greatest", x.force(0, 143), 144L * 11 * 5000);
    }

    private static void best() {
        HollowPress x = new HollowPress();
        Due.part(x, 0, 1, 1, 5);
        Due.is("one cell", x.best(0), 0);
        Due.part(x, 0, 5, 1, 9, 9, 9, 9, 9);
        Due.is("the middle", x.best(0), 2);
        Due.part(x, 0, 4, 1, 9, 9, 9, 9);
        Due.is("of several the first", x.best(0), 1);
        Due.part(x, 0, 5, 1, 9, 9, 9, 9, 1);
        Due.is("near to what is thin", x.best(0), 3);
        Due.part(x, 0, 5, 1, 0, 9, 9, 9, 0);
        Due.is("no place without a cell", x.best(0), 2);
        Due.part(x, 0, 3, 3, 9, 9, 9, 9, 9, 9, 9, 9, 9);
        Due.is("the middle", x.best(0), 4);
        x.gate(0, 0);
        Due.is("gates do not matter", x.best(0), 4);
        Due.is("gates stay", x.cell(0, 0, 2), 0);
        Due.is("gates stay", x.cell(0, 8, 1), 30);
        Due.is("and are counted on", x.gate(0, 1), 1);
        Due.part(x, 0, 3, 1, 9, 0, 9);
        Due.is("two halves", x.best(0), Due.NONE);
        Due.is("status", x.status(), 0);
        Due.part(x, 0, 2, 2, 9, 0, 0, 9);
        Due.is("corners do not touch", x.best(0), Due.NONE);
        Due.is("still none", x.best(0), Due.NONE);
    }

    private static void refusedAlike() {
        HollowPress x = new HollowPress();
        Due.layers(x, 0, 0, 1, 2);
        refused(x, 0, Due.KIND, 3);
        for (int p = 1; p < 10; p++) refused(x, p, Due.NULL, 1);
        int[] wrong = {-1, 10, MIN, MAX};
        for (int p : wrong) refused(x, p, Due.BAD, 1);
    }

    private static void refused(HollowPress x, int place, int due, int status) {
        Due.is("gate", x.gate(place, -1), due);
        Due.is("status", x.status(), status);
        Due.is("vent", x.vent(place, -1), due);
        Due.is("status", x.status(), status);
        Due.is("cell", x.cell(place, 0, 1), due);
        Due.is("status", x.status(), status);
        Due.is("meeting", x.meeting(place, -1, 0), due);
        Due.is("status", x.status(), status);
        Due.is("trap", x.trap(place, -1), due);
        Due.is("status", x.status(), status);
        Due.is("force", x.force(place, -1), due);
        Due.is("status", x.status(), status);
        Due.is("best", x.best(place), due);
        Due.is("status", x.status(), status);
    }

    private static long[] cells(HollowPress x, int place, int n, int what) {
        long[] row = new long[n];
        for (int c = 0; c < n; c++) row[c] = x.cell(place, c, what);
        return row;
    }
}
