/** Promises 29 to 34, and what the terms say of PRESSES and JOBS. */
final class PressEdges {
    private PressEdges() {
    }

    static void run() {
        press();
        job();
        jobRefused();
        whichPress();
        leftJobs();
        orderOfJobs();
        pains();
        plan();
        planned();
        plannedRefused();
        load();
        count();
    }

    private static void press() {
        HollowPress x = new HollowPress();
        Edge.of(29, "A PRESS: its number");
        Edge.is("the least force", x.press(0), 0);
        Edge.is("the greatest force", x.press(1000000), 1);
        Edge.of(29, "BAD: FORCE (0 to 1000000)");
        for (int f : Edge.outside(0, 1000000)) Edge.is("force " + f, x.press(f), Due.BAD);
        Edge.is("two", x.count(5), 2);
        Edge.of(0, "PRESSES 0 .. 5, each with a FORCE");
        for (int p = 2; p <= 5; p++) Edge.is("press " + p, x.press(p), p);
        Edge.of(29, "FULL: 6");
        Edge.is("a seventh", x.press(1), Due.FULL);
        Edge.is("again", x.press(0), Due.FULL);
        for (int f : Edge.outside(0, 1000000)) Edge.is("bad goes ahead", x.press(f), Due.BAD);
        Edge.is("six", x.count(5), 6);
        Edge.is("no press 6", x.load(6, 0), Due.BAD);
    }

    private static void job() {
        HollowPress x = new HollowPress();
        Edge.of(30, "A JOB: its number");
        Edge.is("all the least", x.job(0, 0, 1), 0);
        Edge.is("all the greatest", x.job(1000000, 9, 1000), 1);
        Edge.of(0, "JOBS 0 .. 11, each with a FORCE it needs, a COLOUR 0 to 9, a time 1 to 1000");
        for (int j = 2; j <= 11; j++) Edge.is("job " + j, x.job(j, j % 10, j), j);
        Edge.of(30, "FULL: 12");
        Edge.is("a thirteenth", x.job(0, 0, 1), Due.FULL);
        Edge.is("bad goes ahead", x.job(-1, 0, 1), Due.BAD);
        Edge.is("bad goes ahead", x.job(0, 10, 1), Due.BAD);
        Edge.is("bad goes ahead", x.job(0, 0, 0), Due.BAD);
        Edge.is("twelve", x.count(6), 12);
    }

    private static void jobRefused() {
        HollowPress x = new HollowPress();
        Edge.of(30, "BAD: FORCE (0 to 1000000), COLOUR, time");
        for (int f : Edge.outside(0, 1000000)) Edge.is("force " + f, x.job(f, 0, 1), Due.BAD);
        for (int c : Edge.outside(0, 9)) Edge.is("colour " + c, x.job(0, c, 1), Due.BAD);
        for (int t : Edge.outside(1, 1000)) Edge.is("time " + t, x.job(0, 0, t), Due.BAD);
        Edge.is("none", x.count(6), 0);
        Edge.is("the first number is still free", x.job(0, 0, 1), 0);
    }

    private static void whichPress() {
        Edge.of(0, "PLAN: JOBS by numbers, each to that PRESS of at least its FORCE on which the times so far are least (of several the first)");
        HollowPress x = new HollowPress();
        x.press(9);
        x.press(10);
        x.press(11);
        x.job(10, 0, 5);
        x.job(10, 0, 5);
        x.job(9, 0, 1);
        x.job(9, 0, 3);
        x.job(9, 0, 1);
        x.job(9, 0, 1);
        x.job(11, 0, 1);
        Edge.is("none is left", x.plan(), 0);
        row(x, 0, 2, 3, 4, 5);
        row(x, 1, 0);
        row(x, 2, 1, 6);
    }

    private static void leftJobs() {
        Edge.of(0, "a JOB for which there is none is LEFT");
        HollowPress x = new HollowPress();
        x.job(0, 0, 1);
        x.job(1000000, 0, 1);
        x.job(999999, 0, 1);
        Edge.is("no press", x.plan(), 3);
        x.press(0);
        Edge.is("one goes", x.plan(), 2);
        x.press(999999);
        Edge.is("two go", x.plan(), 1);
        row(x, 0, 0);
        row(x, 1, 2);
        Edge.of(31, "PLAN is made: how many JOBS are LEFT");
        Edge.is("again", x.plan(), 1);
        row(x, 0, 0);
        row(x, 1, 2);
        Edge.is("no jobs", new HollowPress().plan(), 0);
    }

    private static void orderOfJobs() {
        Edge.of(0, "On each PRESS they are put in the ORDER whose PAINS are least, of several the one with the least numbers from the first on");
        HollowPress x = new HollowPress();
        x.press(0);
        int[] colours = {9, 5, 0, 9, 5, 0, 1, 8, 5, 9, 0, 4};
        for (int c : colours) x.job(0, c, 1000);
        Edge.is("plan", x.plan(), 0);
        row(x, 0, 2, 5, 10, 6, 11, 1, 4, 8, 7, 0, 3, 9);
        Edge.is("pains", x.load(0, 2), 9);
        HollowPress y = new HollowPress();
        y.press(0);
        for (int j = 0; j < 12; j++) y.job(0, 4, 1);
        y.plan();
        row(y, 0, 0, 1, 2, 3, 4, 5, 6, 7, 8, 9, 10, 11);
    }

    private static void pains() {
        Edge.of(0, "PAINS: between each two that follow: none for one COLOUR");
        painsOf(0, 7);
        painsOf(0, 7, 7);
        painsOf(0, 0, 0, 0);
        Edge.of(0, "to a darker (greater) one by how much");
        painsOf(1, 7, 8);
        painsOf(9, 0, 9);
        painsOf(9, 0, 5, 9);
        Edge.of(0, "to a lighter one five times by how much, and 3");
        painsOf(1, 8, 7);
        painsOf(9, 9, 0);
        painsOf(9, 9, 0, 9, 0);
        painsOf(5, 4, 9, 5);
    }

    private static void painsOf(int due, int... colours) {
        HollowPress x = new HollowPress();
        x.press(0);
        for (int c : colours) x.job(0, c, 1);
        x.plan();
        Edge.is("pains", x.load(0, 2), due);
    }

    private static void plan() {
        Edge.of(31, "PLAN is made: how many JOBS are LEFT");
        HollowPress x = new HollowPress();
        for (int p = 0; p < 6; p++) x.press(p);
        for (int j = 0; j < 12; j++) x.job(6, 0, 1);
        Edge.is("all are left", x.plan(), 12);
        for (int p = 0; p < 6; p++) row(x, p);
        HollowPress y = new HollowPress();
        y.press(1000000);
        for (int j = 0; j < 12; j++) y.job(1000000, 0, 1000);
        Edge.is("none is left", y.plan(), 0);
        Edge.is("all on one", y.load(0, 0), 12);
        Edge.is("times", y.load(0, 1), 12000);
    }

    private static void planned() {
        Edge.of(32, "In THE PLAN (nothing ahead of one, and behind a new PRESS, a new JOB): JOB i of a PRESS");
        HollowPress x = new HollowPress();
        x.press(5);
        x.job(1, 7, 3);
        x.job(1, 2, 3);
        row(x, 0);
        x.plan();
        row(x, 0, 1, 0);
        Edge.is("a press that is refused", x.press(-1), Due.BAD);
        Edge.is("a job that is refused", x.job(1, 7, 0), Due.BAD);
        row(x, 0, 1, 0);
        x.job(9, 7, 3);
        row(x, 0);
        Edge.is("even one that will be left", x.plan(), 1);
        row(x, 0, 1, 0);
        x.press(0);
        row(x, 0);
        row(x, 1);
        x.plan();
        row(x, 0, 1, 0);
        for (int p = 2; p < 6; p++) x.press(0);
        for (int j = 3; j < 12; j++) x.job(6, 0, 1);
        x.plan();
        Edge.is("one too many", x.press(9), Due.FULL);
        Edge.is("one too many", x.job(0, 0, 1), Due.FULL);
        row(x, 0, 1, 0);
    }

    private static void plannedRefused() {
        HollowPress x = new HollowPress();
        Edge.of(32, "BAD: PRESS");
        Edge.is("no press", x.planned(0, 0), Due.BAD);
        x.press(5);
        x.press(5);
        for (int p : Edge.outside(0, 1)) Edge.is("press " + p, x.planned(p, 0), Due.BAD);
        Edge.is("bad goes ahead of none", x.planned(2, 99), Due.BAD);
        Edge.of(32, "NONE: there are not so many");
        Edge.is("no plan", x.planned(0, 0), Due.NONE);
        x.job(0, 0, 1);
        x.plan();
        for (int i : Edge.outside(0, 0)) Edge.is("job " + i, x.planned(0, i), Due.NONE);
        for (int i : Edge.outside(0, -1)) Edge.is("job " + i, x.planned(1, i), Due.NONE);
    }

    private static void load() {
        HollowPress x = new HollowPress();
        Edge.of(33, "BAD");
        Edge.is("no press", x.load(0, 0), Due.BAD);
        x.press(5);
        x.press(4);
        for (int what = 0; what <= 2; what++) {
            for (int p : Edge.outside(0, 1)) Edge.is("press " + p, x.load(p, what), Due.BAD);
        }
        for (int what : Edge.outside(0, 2)) Edge.is("what " + what, x.load(0, what), Due.BAD);
        Edge.of(33, "Of a PRESS in THE PLAN: 0 how many JOBS, 1 their times, 2 PAINS (all 0 without)");
        x.job(5, 7, 300);
        x.job(5, 2, 4);
        loads(x, 0, 0, 0, 0);
        x.plan();
        loads(x, 0, 2, 304, 5);
        loads(x, 1, 0, 0, 0);
        x.plan();
        loads(x, 0, 2, 304, 5);
        x.job(9, 0, 1);
        loads(x, 0, 0, 0, 0);
        x.plan();
        x.press(0);
        loads(x, 0, 0, 0, 0);
        loads(x, 2, 0, 0, 0);
    }

    private static void loads(HollowPress x, int press, int... due) {
        for (int what = 0; what <= 2; what++) Edge.is("load " + press + " " + what, x.load(press, what), due[what]);
    }

    private static void count() {
        HollowPress x = new HollowPress();
        Edge.of(34, "BAD");
        for (int what : Edge.outside(0, 6)) Edge.is("count " + what, x.count(what), Due.BAD);
        Edge.of(34, "How many: 0 SHEETS, 1 THINGS, 2 PARTS, 3 EVEN ones, as they are told, 4 BRANCHES, 5 PRESSES, 6 JOBS");
        counts(x, 0, 0, 0, 0, 0, 0, 0);
        for (int s = 0; s < 8; s++) x.sheet(s, 1, s);
        for (int b = 0; b < 8; b++) x.branch(Due.NONE, 1, 1);
        for (int p = 0; p < 6; p++) x.press(p);
        for (int j = 0; j < 12; j++) x.job(1, 1, 1);
        counts(x, 8, 0, 0, 0, 8, 6, 12);
        x.set(7, 0, 9);
        for (int p = 0; p < 10; p++) x.part(p, 7, 0, 1, 1);
        counts(x, 8, 10, 10, 10, 8, 6, 12);
        x.set(7, 1, 8);
        x.part(0, 7, 0, 2, 1);
        x.part(1, 7, 0, 2, 2);
        x.part(2, 7, 0, 1, 1);
        x.layers(3, 7, 0, 2, 0);
        x.part(4, 7, 1, 3, 1);
        counts(x, 8, 10, 9, 7, 8, 6, 12);
        for (int p = 0; p < 10; p++) x.clear(p);
        for (int s = 0; s < 8; s++) x.drop(s);
        x.strip();
        counts(x, 0, 0, 0, 0, 0, 6, 12);
    }

    private static void counts(HollowPress x, int... due) {
        for (int what = 0; what <= 6; what++) Edge.is("count " + what, x.count(what), due[what]);
    }

    /** A press has these jobs and no more. */
    private static void row(HollowPress x, int press, int... due) {
        for (int i = 0; i < due.length; i++) Edge.is("planned " + press + " " + i, x.planned(press, i), due[i]);
        Edge.is("no more on " + press, x.planned(press, due.length), Due.NONE);
        Edge.is("how many on " + press, x.load(press, 0), due.length);
    }
}
