/** Promises 20 to 26: branch, hang, strip, end, runners, balance, size. */
public final class RunnerTest {
    private static final int MIN = Integer.MIN_VALUE, MAX = Integer.MAX_VALUE;

    public static void main(String[] args) {
        branch();
        hang();
        strip();
        end();
        runners();
        balance();
        balanceTies();
        balanceRefused();
        size();
        Due.end();
    }

    private static void branch() {
        HollowPress x = new HollowPress();
        Due.is("no parent yet", x.branch(0, 1, 1), Due.BAD);
        Due.is("first", x.branch(Due.NONE, 1, 1), 0);
        Due.is("second", x.branch(0, 50, 9), 1);
        int[] wrongParents = {-1, 2, 7, 8, MIN, MAX, Due.NONE + 1, Due.NONE - 1};
        for (int p : wrongParents) Due.is("parent " + p, x.branch(p, 1, 1), Due.BAD);
        int[] wrongLengths = {0, -1, 51, MIN, MAX};
        for (int n : wrongLengths) Due.is("length " + n, x.branch(0, n, 1), Due.BAD);
        int[] wrongSizes = {0, -1, 10, MIN, MAX};
        for (int s : wrongSizes) Due.is("size " + s, x.branch(0, 1, s), Due.BAD);
        Due.is("count", x.count(4), 2);
        for (int b = 2; b < 8; b++) Due.is("branch " + b, x.branch(b - 1, b, b), b);
        Due.is("full", x.branch(0, 1, 1), Due.FULL);
        Due.is("full", x.branch(Due.NONE, 1, 1), Due.FULL);
        Due.is("bad goes ahead of full", x.branch(8, 1, 1), Due.BAD);
        Due.is("bad goes ahead of full", x.branch(0, 0, 1), Due.BAD);
        Due.is("bad goes ahead of full", x.branch(0, 1, 10), Due.BAD);
        Due.is("count", x.count(4), 8);
    }

    private static void hang() {
        HollowPress x = new HollowPress();
        Due.part(x, 0, 1, 1, 1);
        Due.part(x, 1, 2, 1, 0, 1);
        Due.part(x, 2, 2, 1, 2, 1);
        Due.layers(x, 3, 0, 1, 2);
        for (int b = 0; b < 4; b++) x.branch(Due.NONE, 1, 1);
        int[] wrongBranches = {-1, 4, 8, MIN, MAX, Due.NONE};
        for (int b : wrongBranches) Due.is("branch " + b, x.hang(b, 0), Due.BAD);
        int[] wrongPlaces = {-1, 10, MIN, MAX};
        for (int p : wrongPlaces) Due.is("place " + p, x.hang(0, p), Due.BAD);
        Due.is("status", x.status(), 0);
        Due.is("nothing", x.hang(0, 4), Due.NULL);
        Due.is("status", x.status(), 1);
        Due.is("layers", x.hang(0, 3), Due.KIND);
        Due.is("status", x.status(), 3);
        Due.is("plate", x.hang(1, 0), 1);
        Due.is("status", x.status(), 0);
        Due.is("nothing", x.hang(0, 4), Due.NULL);
        Due.is("one hangs there", x.hang(1, 1), Due.STATE);
        Due.is("it hangs elsewhere", x.hang(0, 0), Due.STATE);
        Due.is("it hangs there", x.hang(1, 0), Due.STATE);
        Due.is("state goes ahead of null", x.hang(1, 4), Due.STATE);
        Due.is("state goes ahead of kind", x.hang(1, 3), Due.STATE);
        Due.is("bad goes ahead of state", x.hang(1, 10), Due.BAD);
        Due.is("status stays", x.status(), 1);
        Due.is("even", x.hang(0, 1), 2);
        Due.is("part", x.hang(3, 2), 3);
        Due.is("how many", x.runners(2), 3);
    }

    private static void strip() {
        HollowPress x = new HollowPress();
        Due.part(x, 0, 1, 1, 1);
        for (int b = 0; b < 8; b++) x.branch(Due.NONE, 1, 1);
        x.hang(5, 0);
        Due.is("kind", x.kind(9), Due.NULL);
        Due.is("strip", x.strip(), 8);
        Due.is("status stays", x.status(), 1);
        Due.is("again", x.strip(), 0);
        Due.is("gone", x.count(4), 0);
        Due.is("hang", x.runners(2), 0);
        Due.is("no parent", x.branch(0, 1, 1), Due.BAD);
        for (int b = 0; b < 8; b++) Due.is("anew", x.branch(Due.NONE, 1, 1), b);
        for (int b = 0; b < 8; b++) Due.is("nothing hangs", x.end(b), Due.NONE);
        Due.is("hangs anew", x.hang(7, 0), 1);
        Due.is("strip", x.strip(), 8);
        Due.is("the part stays", x.clear(0), 1);
    }

    private static void end() {
        HollowPress x = new HollowPress();
        Due.part(x, 0, 2, 1, 9, 9);
        Due.part(x, 1, 3, 1, 9, 0, 8);
        x.branch(Due.NONE, 10, 3);
        x.branch(0, 7, 7);
        x.branch(1, 50, 1);
        x.branch(Due.NONE, 1, 9);
        for (int b = 0; b < 4; b++) Due.is("none hangs", x.end(b), Due.NONE);
        x.hang(2, 0);
        x.hang(3, 1);
        Due.is("without gates", x.end(2), 1851 + 102 + 250000);
        Due.is("without gates", x.end(3), 6);
        x.gate(0, 0);
        Due.is("with a gate", x.end(2), 1851 + 102 + 250000 + 12);
        x.gate(0, 1);
        Due.is("with two", x.end(2), 1851 + 102 + 250000 + 6);
        x.gate(1, 2);
        Due.is("cells without strain do not count", x.end(3), 6 + 9);
        Due.is("others have none", x.end(0), Due.NONE);
        int[] wrong = {-1, 4, 8, MIN, MAX, Due.NONE};
        for (int b : wrong) Due.is("end " + b, x.end(b), Due.BAD);
        gatedAheadOfHanging();
    }

    private static void gatedAheadOfHanging() {
        HollowPress x = new HollowPress();
        Due.part(x, 0, 2, 1, 9, 9);
        x.gate(0, 0);
        x.best(0);
        x.branch(Due.NONE, 1, 9);
        x.hang(0, 0);
        Due.is("end", x.end(0), 6 + 12);
        x.strip();
        x.branch(Due.NONE, 2, 9);
        x.hang(0, 0);
        Due.is("end", x.end(0), 13 + 12);
    }

    private static void runners() {
        HollowPress x = new HollowPress();
        Due.is("spread", x.runners(0), 0);
        Due.is("mass", x.runners(1), 0);
        Due.is("hang", x.runners(2), 0);
        for (int p = 0; p < 3; p++) Due.part(x, p, 1, 1, 9);
        x.branch(Due.NONE, 2, 5);
        x.branch(0, 3, 4);
        x.branch(0, 4, 3);
        Due.is("mass", x.runners(1), 2 * 25 + 3 * 16 + 4 * 9);
        Due.is("spread of none", x.runners(0), 0);
        x.hang(2, 0);
        Due.is("spread of one", x.runners(0), 0);
        x.hang(1, 1);
        Due.is("spread of two", x.runners(0), 740 - 234);
        x.hang(0, 2);
        Due.is("spread of three", x.runners(0), 740);
        x.gate(2, 0);
        Due.is("with ends", x.runners(0), 734);
        Due.is("hang", x.runners(2), 3);
        int[] wrong = {-1, 3, MIN, MAX};
        for (int what : wrong) Due.is("runners " + what, x.runners(what), Due.BAD);
    }

    private static void balance() {
        HollowPress x = new HollowPress();
        Due.is("nothing to balance", x.balance(2), 0);
        for (int p = 0; p < 2; p++) Due.part(x, p, 1, 1, 9);
        x.branch(Due.NONE, 8, 9);
        x.branch(Due.NONE, 1, 9);
        x.hang(0, 0);
        x.hang(1, 1);
        Due.is("balance", x.balance(1 << 1 | 1 << 2), 0);
        Due.is("size", x.size(0), 2);
        Due.is("size", x.size(1), 1);
        Due.is("spread", x.runners(0), 0);
        Due.is("mass", x.runners(1), 33);
        Due.is("only one", x.balance(1 << 9), 54 - 6);
        Due.is("size", x.size(0), 9);
        x.gate(0, 0);
        Due.is("with ends", x.balance(1 << 1 | 1 << 2), 6);
        Due.is("kind", x.kind(9), Due.NULL);
        x.balance(2);
        Due.is("status stays", x.status(), 1);
    }

    private static void balanceTies() {
        HollowPress x = new HollowPress();
        for (int p = 0; p < 2; p++) Due.part(x, p, 1, 1, 9);
        x.branch(Due.NONE, 5, 9);
        x.branch(0, 5, 9);
        x.branch(0, 5, 9);
        Due.is("none hangs", x.balance(1 << 3 | 1 << 7), 0);
        for (int b = 0; b < 3; b++) Due.is("least mass", x.size(b), 3);
        x.hang(1, 0);
        x.hang(2, 1);
        Due.is("alike", x.balance(1 << 4 | 1 << 8 | 1 << 6), 0);
        for (int b = 0; b < 3; b++) Due.is("least mass", x.size(b), 4);
        leastSizesFirst();
        leastMass(new int[] {46, 1, 4, 12}, 1 << 4 | 1 << 7 | 1 << 8, 371, 8, 4, 7, 7);
        leastMass(new int[] {20, 45, 14, 15}, 1 << 4 | 1 << 6 | 1 << 7, 193, 6, 7, 7, 6);
        leastMass(new int[] {30, 37, 11, 10}, 1 << 6 | 1 << 7 | 1 << 8, 69, 8, 8, 7, 7);
    }

    /** Branches 2 and 3 feed a part whose end lies between the others, whatever they are of a few sizes. */
    private static void leastMass(int[] lengths, int set, int spread, int... sizes) {
        HollowPress x = new HollowPress();
        for (int p = 0; p < 3; p++) Due.part(x, p, 1, 1, 9);
        for (int b = 0; b < 4; b++) x.branch(b == 3 ? 2 : Due.NONE, lengths[b], 1);
        x.hang(0, 0);
        x.hang(1, 1);
        x.hang(3, 2);
        Due.is("balance", x.balance(set), spread);
        for (int b = 0; b < 4; b++) Due.is("size " + b, x.size(b), sizes[b]);
    }

    /** Branch 0 or 1 may be the wide one: spread and mass are alike, so 0 is the narrow one. */
    private static void leastSizesFirst() {
        HollowPress x = new HollowPress();
        for (int p = 0; p < 2; p++) Due.part(x, p, 2, 1, 9, 9);
        x.branch(Due.NONE, 4, 5);
        x.branch(0, 4, 5);
        x.branch(Due.NONE, 36, 5);
        x.hang(1, 0);
        x.hang(2, 1);
        Due.is("balance", x.balance(1 << 1 | 1 << 2), 0);
        Due.is("size 0", x.size(0), 1);
        Due.is("size 1", x.size(1), 2);
        Due.is("size 2", x.size(2), 2);
        x.gate(1, 0);
        Due.is("balance with ends", x.balance(1 << 1 | 1 << 2), 12);
        Due.is("size 0", x.size(0), 1);
        x.gate(0, 0);
        Due.is("balance with both ends", x.balance(1 << 1 | 1 << 2), 0);
    }

    private static void balanceRefused() {
        HollowPress x = new HollowPress();
        x.branch(Due.NONE, 4, 5);
        int[] wrong = {0, 1, 3, 1 << 10, 1 << 10 | 2, 1 << 31, 1 << 31 | 2, -1, MIN, MAX, 30, 0x3FE, 2 | 4 | 8 | 512};
        for (int set : wrong) {
            Due.is("balance " + set, x.balance(set), Due.BAD);
            Due.is("refused changes nothing", x.size(0), 5);
        }
        for (int s = 1; s <= 9; s++) {
            Due.is("balance", x.balance(1 << s), 0);
            Due.is("size", x.size(0), s);
        }
        Due.is("three", x.balance(1 << 9 | 1 << 8 | 1 << 7), 0);
        Due.is("size", x.size(0), 7);
    }

    private static void size() {
        HollowPress x = new HollowPress();
        Due.is("none", x.size(0), Due.BAD);
        for (int b = 0; b < 8; b++) x.branch(Due.NONE, 1, 9 - b);
        for (int b = 0; b < 8; b++) Due.is("size " + b, x.size(b), 9 - b);
        int[] wrong = {-1, 8, MIN, MAX, Due.NONE};
        for (int b : wrong) Due.is("size " + b, x.size(b), Due.BAD);
        x.strip();
        Due.is("gone", x.size(0), Due.BAD);
    }
}
