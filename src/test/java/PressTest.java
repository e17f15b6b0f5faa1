/** Promises 29 to 35: press, job, plan, planned, load, count, status. */
public final class PressTest {
    private static final int MIN = Integer.MIN_VALUE, MAX = Integer.MAX_VALUE;

    public static void main(String[] args) {
        press();
        job();
        plan();
        leftJobs();
        colours();
        forgotten();
        plannedAndLoadRefused();
        count();
        status();
        Due.end();
    }

    private static void press() {
        HollowPress x = new HollowPress();
        int[] wrong = {-1, 1000001, MIN, MAX};
        for (int f : wrong) Due.is("press " + f, x.press(f), Due.BAD);
        Due.is("count", x.count(5), 0);
        Due.is("least", x.press(0), 0);
        Due.is("greatest", x.press(1000000), 1);
        for (int p = 2; p < 6; p++) Due.is("press " + p, x.press(p), p);
        Due.is("full", x.press(1), Due.FULL);
        for (int f : wrong) Due.is("bad goes ahead of full", x.press(f), Due.BAD);
        Due.is("count", x.count(5), 6);
    }

    private static void job() {
        HollowPress x = new HollowPress();
        int[] wrongForces = {-1, 1000001, MIN, MAX};
        int[] wrongColours = {-1, 10, MIN, MAX};
        int[] wrongTimes = {0, -1, 1001, MIN, MAX};
        for (int turn = 0; turn < 2; turn++) {
            for (int f : wrongForces) Due.is("force " + f, x.job(f, 0, 1), Due.BAD);
            for (int c : wrongColours) Due.is("colour " + c, x.job(0, c, 1), Due.BAD);
            for (int t : wrongTimes) Due.is("time " + t, x.job(0, 0, t), Due.BAD);
            if (turn == 1) break;
            Due.is("least", x.job(0, 0, 1), 0);
            Due.is("greatest", x.job(1000000, 9, 1000), 1);
            for (int j = 2; j < 12; j++) Due.is("job " + j, x.job(j, j % 10, j), j);
            Due.is("full", x.job(0, 0, 1), Due.FULL);
        }
        Due.is("count", x.count(6), 12);
    }

    private static void plan() {
        HollowPress x = new HollowPress();
        Due.is("nothing to plan", x.plan(), 0);
        x.press(10);
        x.press(20);
        x.press(20);
        x.job(10, 5, 4);
        x.job(10, 5, 3);
        x.job(11, 5, 9);
        x.job(20, 5, 1);
        x.job(0, 5, 2);
        x.job(10, 5, 1);
        Due.is("plan", x.plan(), 0);
        row(x, 0, 0, 4);
        row(x, 1, 1, 3, 5);
        row(x, 2, 2);
        Due.is("times", x.load(0, 1), 6);
        Due.is("times", x.load(1, 1), 5);
        Due.is("times", x.load(2, 1), 9);
        Due.is("again", x.plan(), 0);
        row(x, 1, 1, 3, 5);
        Due.is("times", x.load(1, 1), 5);
    }

    private static void leftJobs() {
        HollowPress x = new HollowPress();
        x.job(0, 0, 1);
        x.job(1, 0, 1);
        x.job(2, 0, 1);
        Due.is("no press", x.plan(), 3);
        x.press(0);
        Due.is("too weak for two", x.plan(), 2);
        row(x, 0, 0);
        x.press(1);
        Due.is("too weak for one", x.plan(), 1);
        row(x, 0, 0);
        row(x, 1, 1);
        x.press(2);
        Due.is("none left", x.plan(), 0);
        row(x, 2, 2);
    }

    private static void colours() {
        HollowPress x = new HollowPress();
        x.press(5);
        int[] colours = {9, 0, 5, 5, 0, 9, 1, 4, 4, 4, 2, 0};
        for (int c : colours) x.job(1, c, 1000);
        Due.is("plan", x.plan(), 0);
        row(x, 0, 1, 4, 11, 6, 10, 7, 8, 9, 2, 3, 0, 5);
        Due.is("many", x.load(0, 0), 12);
        Due.is("times", x.load(0, 1), 12000);
        Due.is("pains", x.load(0, 2), 9);
        HollowPress y = new HollowPress();
        y.press(5);
        y.job(1, 7, 1);
        y.plan();
        Due.is("no pains of one", y.load(0, 2), 0);
        y.job(1, 7, 1);
        y.plan();
        Due.is("no pains of one colour", y.load(0, 2), 0);
        y.job(1, 6, 1);
        y.plan();
        row(y, 0, 2, 0, 1);
        Due.is("pains", y.load(0, 2), 1);
    }

    private static void forgotten() {
        HollowPress x = new HollowPress();
        x.press(5);
        x.job(1, 7, 3);
        x.job(1, 9, 3);
        none(x);
        x.plan();
        row(x, 0, 0, 1);
        Due.is("refused", x.job(1, 10, 1), Due.BAD);
        Due.is("refused", x.press(-1), Due.BAD);
        row(x, 0, 0, 1);
        x.job(1, 8, 3);
        none(x);
        x.plan();
        row(x, 0, 0, 2, 1);
        x.press(0);
        none(x);
        x.plan();
        row(x, 0, 0, 2, 1);
        for (int p = 2; p < 6; p++) x.press(0);
        for (int j = 3; j < 12; j++) x.job(1, 0, 1);
        x.plan();
        Due.is("full", x.press(0), Due.FULL);
        Due.is("full", x.job(0, 0, 1), Due.FULL);
        row(x, 0, 3, 4, 5, 6, 7, 8, 9, 10, 11, 0, 2, 1);
    }

    private static void none(HollowPress x) {
        row(x, 0);
        Due.is("no jobs", x.load(0, 0), 0);
        Due.is("no times", x.load(0, 1), 0);
        Due.is("no pains", x.load(0, 2), 0);
    }

    private static void plannedAndLoadRefused() {
        HollowPress x = new HollowPress();
        x.press(5);
        x.job(1, 7, 3);
        x.plan();
        int[] wrong = {-1, 1, 6, MIN, MAX};
        for (int p : wrong) {
            Due.is("planned " + p, x.planned(p, 0), Due.BAD);
            for (int what = 0; what < 3; what++) Due.is("load " + p, x.load(p, what), Due.BAD);
        }
        int[] wrongLoads = {-1, 3, MIN, MAX};
        for (int what : wrongLoads) Due.is("load " + what, x.load(0, what), Due.BAD);
    }

    private static void row(HollowPress x, int press, int... due) {
        Due.is("load", x.load(press, 0), due.length);
        for (int i = 0; i < due.length; i++) Due.is("planned " + press + " " + i, x.planned(press, i), due[i]);
        int[] beyond = {due.length, due.length + 1, 12, MAX, -1, MIN};
        for (int i : beyond) Due.is("planned " + press + " " + i, x.planned(press, i), Due.NONE);
    }

    private static void count() {
        HollowPress x = new HollowPress();
        counts(x, 0, 0, 0, 0, 0, 0, 0);
        Due.part(x, 0, 2, 1, 1, 2);
        Due.part(x, 1, 2, 1, 0, 2);
        Due.part(x, 2, 2, 1, 2, 2);
        Due.layers(x, 3, 0, 2, 2);
        x.sheet(0, 0, 0);
        x.sheet(5, 0, 9);
        x.branch(Due.NONE, 1, 1);
        x.press(1);
        x.job(1, 1, 1);
        x.job(1, 1, 1);
        counts(x, 2, 4, 3, 2, 1, 1, 2);
        x.clear(2);
        counts(x, 2, 3, 2, 1, 1, 1, 2);
        x.strip();
        x.drop(0);
        counts(x, 1, 3, 2, 1, 0, 1, 2);
        x.clear(3);
        counts(x, 1, 2, 2, 1, 0, 1, 2);
        int[] wrong = {-1, 7, MIN, MAX};
        for (int what : wrong) Due.is("count " + what, x.count(what), Due.BAD);
    }

    private static void counts(HollowPress x, int... due) {
        for (int what = 0; what < 7; what++) Due.is("count " + what, x.count(what), due[what]);
    }

    private static void status() {
        HollowPress x = new HollowPress();
        Due.is("at first", x.status(), 0);
        Due.is("bad", x.kind(-1), Due.BAD);
        Due.is("still", x.status(), 0);
        Due.is("null", x.kind(0), Due.NULL);
        Due.is("null", x.status(), 1);
        Due.is("asking changes nothing", x.status(), 1);
        x.is(0, 0);
        x.clear(0);
        x.trace(0);
        x.branch(Due.NONE, 1, 1);
        x.end(0);
        x.size(0);
        x.runners(0);
        x.balance(2);
        x.strip();
        x.press(1);
        x.job(1, 1, 1);
        x.plan();
        x.planned(0, 0);
        x.load(0, 0);
        x.count(0);
        Due.is("calls without a sheet or a place", x.status(), 1);
        everyCallThatEndsIt(x);
    }

    private static void everyCallThatEndsIt(HollowPress x) {
        Due.is("sheet", x.sheet(0, 1, 4), 4);
        ended(x, "sheet");
        Due.is("set", x.set(0, 0, 9), 9);
        ended(x, "set");
        Due.is("copy", x.copy(0, 0, 0, 1, 1), 1);
        ended(x, "copy");
        Due.is("part", x.part(0, 0, 0, 2, 1), 3);
        ended(x, "part");
        Due.is("layers", x.layers(1, 0, 0, 4, 0), 4);
        ended(x, "layers");
        Due.is("drop", x.drop(0), 4);
        ended(x, "drop");
        Due.is("kind", x.kind(0), 3);
        ended(x, "kind");
        Due.is("ask", x.ask(0, 0), 19);
        ended(x, "ask");
        Due.is("gate", x.gate(0, 0), 0);
        ended(x, "gate");
        Due.is("vent", x.vent(0, 0), 1);
        ended(x, "vent");
        for (int what = 0; what <= 4; what++) {
            x.cell(0, 0, what);
            ended(x, "cell");
        }
        Due.is("meeting", x.meeting(0, 0, 0), Due.NONE);
        ended(x, "meeting");
        Due.is("trap", x.trap(0, 9), Due.NONE);
        ended(x, "trap");
        Due.is("force", x.force(0, 9), Due.NONE);
        ended(x, "force");
        Due.is("force", x.force(0, 1), 6);
        ended(x, "force");
        Due.is("best", x.best(0), 0);
        ended(x, "best");
        x.branch(Due.NONE, 1, 1);
        Due.is("hang", x.hang(0, 0), 1);
        ended(x, "hang");
        Due.is("beat", x.beat(1, 1, 1, 0), 1);
        ended(x, "beat");
        Due.is("warmth", x.warmth(1, 0), 9);
        ended(x, "warmth");
        Due.is("given", x.warmth(1, Due.NONE), 0);
        ended(x, "given");
    }

    /** The call ahead has put the status to 0; it is put to 1 again for the next one. */
    private static void ended(HollowPress x, String call) {
        Due.is("status behind " + call, x.status(), 0);
        Due.is("null", x.kind(9), Due.NULL);
    }
}
