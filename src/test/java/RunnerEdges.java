/** Promises 20 to 26, and what the terms say of RUNNERS. */
final class RunnerEdges {
    private RunnerEdges() {
    }

    static void run() {
        branches();
        branchRefused();
        drag();
        hang();
        hangRefused();
        strip();
        end();
        spreadAndMass();
        leastSpread();
        leastMass();
        leastSizes();
        balance();
        balanceRefused();
        size();
    }

    /** Parts of one cell, 9 thick, at the first places. */
    private static HollowPress withParts(int n) {
        HollowPress x = new HollowPress();
        for (int p = 0; p < n; p++) Due.part(x, p, 1, 1, 9);
        return x;
    }

    private static void branches() {
        HollowPress x = withParts(1);
        Edge.of(0, "RUNNERS: BRANCHES 0 .. 7, each behind an earlier one (its parent) or THE SPRUE (NONE), with a length 1 to 50 and a size 1 to 9");
        Edge.is("its own number is no earlier one", x.branch(0, 1, 1), Due.BAD);
        Edge.is("the first, at the sprue", x.branch(Due.NONE, 50, 1), 0);
        Edge.is("behind the first", x.branch(0, 1, 9), 1);
        Edge.is("its own number is no earlier one", x.branch(2, 1, 1), Due.BAD);
        for (int b = 2; b <= 7; b++) Edge.is("behind the last", x.branch(b - 1, 50, 1), b);
        Edge.of(20, "FULL: 8");
        Edge.is("a ninth", x.branch(0, 1, 1), Due.FULL);
        Edge.is("a ninth at the sprue", x.branch(Due.NONE, 1, 1), Due.FULL);
        Edge.is("bad goes ahead", x.branch(8, 1, 1), Due.BAD);
        Edge.is("bad goes ahead", x.branch(0, 0, 1), Due.BAD);
        Edge.is("bad goes ahead", x.branch(0, 1, 0), Due.BAD);
        Edge.is("eight", x.count(4), 8);
        Edge.of(0, "A PART's END: the DRAGS of all BRANCHES from THE SPRUE to it");
        x.hang(7, 0);
        Edge.is("behind all eight", x.end(7), 7 * 250000 + 6);
        Edge.of(20, "A BRANCH: its number");
        x.strip();
        Edge.is("from 0 again", x.branch(Due.NONE, 1, 1), 0);
        Edge.is("many at the sprue", x.branch(Due.NONE, 1, 1), 1);
        Edge.is("many behind one", x.branch(0, 1, 1), 2);
        Edge.is("many behind one", x.branch(0, 1, 1), 3);
    }

    private static void branchRefused() {
        HollowPress x = new HollowPress();
        Edge.of(20, "BAD: parent (NONE, or there), length, size");
        for (int p : Edge.outside(0, -1)) Edge.is("none is there, parent " + p, x.branch(p, 1, 1), Due.BAD);
        x.branch(Due.NONE, 1, 1);
        for (int p : Edge.outside(0, 0)) Edge.is("parent " + p, x.branch(p, 1, 1), Due.BAD);
        Edge.is("beside NONE", x.branch(Due.NONE + 1, 1, 1), Due.BAD);
        for (int n : Edge.outside(1, 50)) {
            Edge.is("length " + n, x.branch(0, n, 1), Due.BAD);
            Edge.is("length " + n + " at the sprue", x.branch(Due.NONE, n, 1), Due.BAD);
        }
        for (int s : Edge.outside(1, 9)) {
            Edge.is("size " + s, x.branch(0, 1, s), Due.BAD);
            Edge.is("size " + s + " at the sprue", x.branch(Due.NONE, 1, s), Due.BAD);
        }
        Edge.is("one is there", x.count(4), 1);
        x.strip();
        Edge.is("a parent that is gone", x.branch(0, 1, 1), Due.BAD);
    }

    private static void drag() {
        HollowPress x = withParts(1);
        Edge.of(0, "its DRAG is its length times 5000 by its size three times, cut");
        int[][] due = {{1, 1, 5000}, {1, 9, 6}, {50, 1, 250000}, {50, 9, 342}, {10, 3, 1851}, {7, 7, 102}, {3, 8, 29},
            {49, 6, 1134}, {2, 4, 156}};
        for (int[] d : due) {
            x.branch(Due.NONE, d[0], d[1]);
            x.hang(0, 0);
            Edge.is("length " + d[0] + " size " + d[1], x.end(0), d[2]);
            x.strip();
        }
    }

    private static void hang() {
        HollowPress x = withParts(9);
        for (int b = 0; b < 8; b++) x.branch(Due.NONE, 1, 1);
        Edge.of(21, "A PART hangs at a BRANCH: how many hang");
        for (int b = 0; b < 8; b++) Edge.is("part " + b, x.hang(7 - b, b), b + 1);
        Edge.of(0, "A PART (a place of THE SHELF) may hang at a BRANCH, each at one at most, and one at each");
        for (int b = 0; b < 8; b++) Edge.is("one more at " + b, x.hang(b, 8), Due.STATE);
        Edge.is("eight", x.runners(2), 8);
        x.strip();
        x.branch(Due.NONE, 1, 1);
        x.branch(Due.NONE, 1, 1);
        Edge.is("at one", x.hang(0, 0), 1);
        Edge.is("not at another one", x.hang(1, 0), Due.STATE);
        Edge.is("none hangs there", x.end(1), Due.NONE);
        Edge.is("a part that is alike, but another one", x.hang(1, 1), 2);
    }

    private static void hangRefused() {
        HollowPress x = withParts(2);
        Due.layers(x, 8, 0, 1, 2);
        Edge.of(21, "BAD: BRANCH, place");
        Edge.is("no branch", x.hang(0, 0), Due.BAD);
        x.branch(Due.NONE, 1, 1);
        x.branch(Due.NONE, 1, 1);
        for (int b : Edge.outside(0, 1)) Edge.is("branch " + b, x.hang(b, 0), Due.BAD);
        Edge.is("the sprue", x.hang(Due.NONE, 0), Due.BAD);
        for (int p : Edge.outside(0, 9)) Edge.is("place " + p, x.hang(0, p), Due.BAD);
        Edge.of(21, "NULL");
        Edge.is("an empty place", x.hang(0, 9), Due.NULL);
        Edge.of(21, "KIND");
        Edge.is("layers", x.hang(0, 8), Due.KIND);
        Edge.is("none hangs", x.runners(2), 0);
        Edge.of(21, "STATE: one hangs there, or it hangs elsewhere");
        x.hang(0, 0);
        Edge.is("one hangs there", x.hang(0, 1), Due.STATE);
        Edge.is("ahead of null", x.hang(0, 9), Due.STATE);
        Edge.is("ahead of kind", x.hang(0, 8), Due.STATE);
        Edge.is("it hangs elsewhere", x.hang(1, 0), Due.STATE);
        Edge.is("it hangs there itself", x.hang(0, 0), Due.STATE);
        Edge.is("behind bad", x.hang(0, 10), Due.BAD);
        Edge.is("behind bad", x.hang(2, 0), Due.BAD);
        Edge.is("one hangs", x.runners(2), 1);
    }

    private static void strip() {
        Edge.of(22, "All that hangs is off, all BRANCHES are gone: how many there were");
        HollowPress x = withParts(2);
        Edge.is("none", x.strip(), 0);
        for (int b = 0; b < 8; b++) x.branch(Due.NONE, 1, 1);
        x.hang(0, 0);
        x.hang(7, 1);
        Edge.is("eight", x.strip(), 8);
        Edge.is("none any more", x.strip(), 0);
        Edge.is("none any more", x.count(4), 0);
        Edge.is("nothing hangs", x.runners(2), 0);
        Edge.is("no mass", x.runners(1), 0);
        Edge.is("no branch", x.size(0), Due.BAD);
        x.branch(Due.NONE, 1, 1);
        Edge.is("nothing hangs at a new one", x.end(0), Due.NONE);
        Edge.is("what hung may hang anew", x.hang(0, 1), 1);
        Edge.is("what hung is free", x.clear(0), 1);
    }

    private static void end() {
        HollowPress x = withParts(1);
        Due.part(x, 1, 3, 1, 9, 0, 8);
        Edge.of(23, "BAD");
        Edge.is("no branch", x.end(0), Due.BAD);
        x.branch(Due.NONE, 2, 5);
        x.branch(0, 3, 5);
        for (int b : Edge.outside(0, 1)) Edge.is("branch " + b, x.end(b), Due.BAD);
        Edge.is("the sprue", x.end(Due.NONE), Due.BAD);
        Edge.of(23, "NONE: none does");
        Edge.is("branch 0", x.end(0), Due.NONE);
        Edge.is("branch 1", x.end(1), Due.NONE);
        Edge.of(23, "END of the PART that hangs at a BRANCH");
        x.hang(1, 1);
        Edge.is("the way to it", x.end(1), 80 + 120);
        Edge.is("none hangs at its parent", x.end(0), Due.NONE);
        Edge.of(0, "and ENDS of it (0 without GATES)");
        x.gate(1, 0);
        Edge.is("what has a strain", x.end(1), 80 + 120 + 6);
        x.gate(1, 2);
        Edge.is("the greatest", x.end(1), 80 + 120 + 9);
        Edge.is("vents do not matter", x.vent(1, 2), 1);
        Edge.is("vents do not matter", x.end(1), 80 + 120 + 9);
    }

    private static void spreadAndMass() {
        HollowPress x = withParts(3);
        Edge.of(0, "MASS: lengths times sizes times sizes, added");
        Edge.is("no branches", x.runners(1), 0);
        x.branch(Due.NONE, 50, 9);
        Edge.is("one", x.runners(1), 4050);
        x.branch(0, 1, 1);
        Edge.is("two", x.runners(1), 4051);
        Edge.of(0, "SPREAD: the greatest END less the least (0 with fewer than two)");
        Edge.is("none hangs", x.runners(0), 0);
        x.hang(1, 0);
        Edge.is("one hangs", x.runners(0), 0);
        x.hang(0, 1);
        Edge.is("two hang", x.runners(0), 5000);
        x.branch(0, 1, 2);
        x.hang(2, 2);
        Edge.is("one between them", x.runners(0), 5000);
        x.gate(1, 0);
        Edge.is("the least has an end of its own", x.runners(0), 4994);
        x.gate(0, 0);
        Edge.is("the greatest has one, too", x.runners(0), 5000);
        Edge.of(24, "Of all: 0 SPREAD, 1 MASS, 2 how many hang");
        Edge.is("spread", x.runners(0), 5000);
        Edge.is("mass", x.runners(1), 4055);
        Edge.is("how many hang", x.runners(2), 3);
        Edge.of(24, "BAD");
        for (int what : Edge.outside(0, 2)) Edge.is("runners " + what, x.runners(what), Due.BAD);
    }

    private static void leastSpread() {
        Edge.of(0, "BALANCED: all BRANCHES get sizes out of a set so that SPREAD is least");
        HollowPress x = withParts(2);
        x.branch(Due.NONE, 8, 9);
        x.branch(Due.NONE, 1, 9);
        x.hang(0, 0);
        x.hang(1, 1);
        Edge.is("one is as thick as it has to be", x.balance(1 << 1 | 1 << 2), 0);
        sizes(x, 2, 1);
        Edge.is("its own sizes are not in the set", x.balance(1 << 9), 48);
        sizes(x, 9, 9);
        HollowPress y = new HollowPress();
        for (int p = 0; p < 2; p++) {
            Due.part(y, p, 1, 1, p + 1);
            y.gate(p, 0);
            y.branch(Due.NONE, 1, 9);
            y.hang(p, p);
        }
        Edge.is("one ends 4375 later in itself", y.balance(1 << 1 | 1 << 2), 0);
        sizes(y, 2, 1);
    }

    private static void leastMass() {
        Edge.of(0, "of several MASS is least");
        HollowPress x = withParts(2);
        x.branch(Due.NONE, 2, 5);
        x.branch(0, 4, 5);
        x.branch(Due.NONE, 27, 5);
        x.hang(1, 0);
        x.hang(2, 1);
        Edge.is("16875 lies between 12500 and 21250", x.balance(1 << 1 | 1 << 2), 4375);
        sizes(x, 2, 1, 2);
        Edge.is("mass", x.runners(1), 8 + 4 + 108);
        x.strip();
        x.branch(Due.NONE, 9, 5);
        x.branch(0, 16, 5);
        x.branch(Due.NONE, 11, 5);
        x.hang(1, 0);
        x.hang(2, 1);
        Edge.is("440 lies between 364 and 516", x.balance(1 << 5 | 1 << 7 | 1 << 8), 76);
        sizes(x, 7, 7, 5);
        Edge.is("sizes are counted twice", x.runners(1), 1500);
        x.strip();
        for (int b = 0; b < 8; b++) x.branch(Due.NONE, 50, 5);
        Edge.is("nothing hangs", x.balance(1 << 7 | 1 << 8 | 1 << 9), 0);
        sizes(x, 7, 7, 7, 7, 7, 7, 7, 7);
        x.hang(3, 0);
        Edge.is("one hangs", x.balance(1 << 3 | 1 << 8 | 1 << 9), 0);
        sizes(x, 3, 3, 3, 3, 3, 3, 3, 3);
    }

    private static void leastSizes() {
        Edge.of(0, "of several the sizes of 0, 1, .. are least, in this order");
        HollowPress x = withParts(2);
        x.branch(Due.NONE, 4, 5);
        x.branch(0, 4, 5);
        x.branch(Due.NONE, 36, 5);
        x.hang(1, 0);
        x.hang(2, 1);
        Edge.is("either of two", x.balance(1 << 1 | 1 << 2), 0);
        sizes(x, 1, 2, 2);
        x.strip();
        x.branch(Due.NONE, 36, 5);
        x.branch(Due.NONE, 4, 5);
        x.branch(1, 4, 5);
        x.hang(0, 0);
        x.hang(2, 1);
        Edge.is("either of two behind another one", x.balance(1 << 1 | 1 << 2), 0);
        sizes(x, 2, 1, 2);
    }

    private static void balance() {
        Edge.of(25, "BALANCED with a set of sizes (bit s: size s");
        HollowPress x = withParts(8);
        Edge.is("no branches", x.balance(2), 0);
        x.branch(Due.NONE, 4, 5);
        for (int s = 1; s <= 9; s++) {
            Edge.is("size " + s + " alone", x.balance(1 << s), 0);
            sizes(x, s);
        }
        Edge.of(25, "bits 1 to 9): SPREAD then");
        for (int b = 1; b < 8; b++) x.branch(Due.NONE, 4 + b, 5);
        for (int b = 0; b < 8; b++) x.hang(b, b);
        Edge.is("the thinnest", x.balance(1 << 1), 35000);
        Edge.is("the thickest", x.balance(1 << 9), 75 - 27);
        Edge.is("as it is told", x.runners(0), 75 - 27);
        Edge.is("three", x.balance(1 << 1 | 1 << 5 | 1 << 9), 75 - 27);
    }

    private static void balanceRefused() {
        Edge.of(25, "BAD: the set (empty, other bits, more than three)");
        HollowPress x = withParts(1);
        int[] wrong = {0, 1, 1 << 10, 1 << 31, 1 | 2, 2 | 1 << 10, 2 | 1 << 31, -1, Edge.MIN, Edge.MAX, 2 | 4 | 8 | 16,
            0x3FE, 1 << 9 | 1 << 8 | 1 << 7 | 1 << 6, 1 | 2 | 4, 2 | 4 | 8 | 1 << 10, -2};
        for (int set : wrong) Edge.is("no branches, " + set, x.balance(set), Due.BAD);
        x.branch(Due.NONE, 4, 5);
        for (int set : wrong) Edge.is("balance " + set, x.balance(set), Due.BAD);
        sizes(x, 5);
    }

    private static void size() {
        HollowPress x = new HollowPress();
        Edge.of(26, "BAD");
        Edge.is("no branch", x.size(0), Due.BAD);
        x.branch(Due.NONE, 1, 1);
        x.branch(Due.NONE, 1, 9);
        for (int b : Edge.outside(0, 1)) Edge.is("branch " + b, x.size(b), Due.BAD);
        Edge.is("the sprue", x.size(Due.NONE), Due.BAD);
        Edge.of(26, "The size of a BRANCH");
        sizes(x, 1, 9);
        x.balance(1 << 4);
        sizes(x, 4, 4);
    }

    private static void sizes(HollowPress x, int... due) {
        for (int b = 0; b < due.length; b++) Edge.is("size " + b, x.size(b), due[b]);
    }
}
