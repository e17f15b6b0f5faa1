import java.util.ArrayList;
import java.util.List;
import java.util.function.ToLongFunction;

/** Promise 35, and what the terms say of refusals: which comes first, and that it changes nothing. */
final class RefusalEdges {
    /** Places and sheets of the world in which all calls are refused. */
    private static final int HUNG = 0, EVEN = 1, PLATE = 2, LAYERS = 3, GATED = 5, EMPTY = 9;
    private static final int INTS = 0, BYTES = 1, LONGS = 2, ZEROES = 3, BARE = 6, MISSING = 7;

    private record Call(String name, long due, ToLongFunction<HollowPress> call) {
    }

    private static final List<Call> CALLS = new ArrayList<>();

    private RefusalEdges() {
    }

    static void run() {
        numbers();
        sheets();
        things();
        parts();
        runners();
        layers();
        presses();
        Edge.of(0, "Refusals are answers, the first of these that fits: BAD (a number is not as told");
        for (Call c : CALLS) Edge.is(c.name, c.call.applyAsLong(world()), c.due);
        findings();
        changeNothing();
        statusOfRefusals();
        statusOfFindings();
        statusOfAnswers();
        statusOfOthers();
        statusAtFirst();
    }

    private static void refused(String name, long due, ToLongFunction<HollowPress> call) {
        CALLS.add(new Call(name, due, call));
    }

    /** Something of everything, and as full as can be: eight branches, six presses, twelve jobs, a plan, a trace. */
    private static HollowPress world() {
        HollowPress x = new HollowPress();
        SheetEdges.fill(x, INTS, 3, 3, 1, 0, 3, 3, 10);
        x.sheet(BYTES, 0, 2);
        x.set(BYTES, 0, 2);
        x.sheet(LONGS, 2, 3);
        x.set(LONGS, 0, 10000);
        x.set(LONGS, 2, 10001);
        x.sheet(ZEROES, 1, 4);
        x.sheet(BARE, 1, 0);
        x.part(HUNG, INTS, 0, 6, 1);
        x.part(EVEN, INTS, 3, 2, 1);
        x.part(PLATE, INTS, 0, 2, 1);
        x.layers(LAYERS, LONGS, 0, 2, 100);
        x.part(GATED, INTS, 0, 6, 1);
        x.gate(HUNG, 0);
        x.gate(HUNG, 4);
        x.vent(HUNG, 2);
        x.gate(PLATE, 1);
        for (int c = 0; c < 5; c++) x.gate(GATED, c);
        x.beat(LAYERS, 1, 1, 0);
        for (int b = 0; b < 8; b++) x.branch(b == 0 ? Due.NONE : 0, b + 1, 9 - b);
        x.hang(1, HUNG);
        x.hang(2, GATED);
        for (int p = 0; p < 6; p++) x.press(p);
        for (int j = 0; j < 12; j++) x.job(j % 7, 9 - j % 10, j + 1);
        x.plan();
        x.ask(PLATE, 1);
        return x;
    }

    /** All that can be asked of the world; what asking changes is asked for last. */
    private static List<Long> told(HollowPress x) {
        List<Long> told = new ArrayList<>();
        for (int i = 0; i < 6; i++) told.add((long) x.trace(i));
        for (int what = 0; what < 7; what++) told.add((long) x.count(what));
        for (int b = 0; b < 8; b++) told.add((long) x.end(b));
        for (int b = 0; b < 8; b++) told.add((long) x.size(b));
        for (int what = 0; what < 3; what++) told.add((long) x.runners(what));
        for (int p = 0; p < 6; p++) {
            for (int what = 0; what < 3; what++) told.add((long) x.load(p, what));
            for (int i = 0; i < 4; i++) told.add((long) x.planned(p, i));
        }
        for (int p = 0; p < 10; p++) told.add((long) x.kind(p));
        for (int p : new int[] {HUNG, EVEN, PLATE, GATED}) tellPart(x, p, told);
        for (int i : new int[] {0, 1, 2, Due.NONE}) told.add((long) x.warmth(LAYERS, i));
        tellSheets(x, told);
        return told;
    }

    private static void tellPart(HollowPress x, int place, List<Long> told) {
        for (int c = 0; c < 6; c++) {
            for (int what = 0; what < 5; what++) told.add((long) x.cell(place, c, what));
        }
        for (int i = 0; i < 3; i++) {
            told.add((long) x.trap(place, i));
            told.add((long) x.meeting(place, i, 1));
            told.add(x.force(place, i));
        }
        told.add((long) x.best(place));
        for (int c = 0; c < 6; c++) told.add((long) x.vent(place, c));
        for (int c = 0; c < 6; c++) told.add((long) x.gate(place, c));
    }

    private static void tellSheets(HollowPress x, List<Long> told) {
        for (int s : new int[] {MISSING, 4, 5, BARE}) told.add((long) x.drop(s));
        int[][] lanesAndLengths = {{1, 7}, {0, 2}, {2, 3}, {1, 4}};
        for (int s = INTS; s <= ZEROES; s++) {
            for (int i = 0; i < lanesAndLengths[s][1]; i++) {
                x.sheet(MISSING, lanesAndLengths[s][0], 2);
                told.add((long) x.copy(s, i, MISSING, 0, 1));
                told.add((long) x.layers(EMPTY, MISSING, 0, 2, 0));
                told.add((long) x.warmth(EMPTY, 0));
            }
            told.add((long) x.drop(s));
        }
    }

    private static void numbers() {
        Edge.of(0, "Numbers go from 0 on");
        HollowPress x = new HollowPress();
        Edge.is("sheet", x.sheet(0, 0, 2), 2);
        Edge.is("item", x.set(0, 0, 9), 9);
        Edge.is("place", x.part(0, 0, 0, 1, 1), 3);
        Edge.is("cell, gate", x.gate(0, 0), 0);
        Edge.is("front", x.cell(0, 0, 2), 0);
        Edge.is("order", x.cell(0, 0, 3), 0);
        Edge.is("trap", x.trap(0, 0), 0);
        Edge.is("force", x.force(0, 0), 0);
        Edge.is("branch", x.branch(Due.NONE, 1, 1), 0);
        Edge.is("layer", x.layers(1, 0, 0, 2, 0), 4);
        Edge.is("layer", x.warmth(1, 0), 9);
        Edge.is("press", x.press(0), 0);
        Edge.is("job", x.job(0, 0, 1), 0);
        x.plan();
        Edge.is("planned", x.planned(0, 0), 0);
        x.ask(1, 0);
        Edge.is("trace", x.trace(0), 13);
    }

    private static void sheets() {
        refused("no sheet, size", Due.BAD, x -> x.sheet(8, 1, -1));
        refused("no lane, size", Due.BAD, x -> x.sheet(INTS, 3, -1));
        refused("too many items", Due.BAD, x -> x.sheet(INTS, 1, 145));
        refused("fewer than none", Due.SIZE, x -> x.sheet(INTS, 1, -1));
        refused("fewer than none", Due.SIZE, x -> x.sheet(MISSING, 1, Edge.MIN));
        refused("set on no sheet", Due.BAD, x -> x.set(8, -1, 1));
        refused("set on a missing one, no place", Due.NULL, x -> x.set(MISSING, -1, 1));
        refused("set behind the end", Due.PLACE, x -> x.set(INTS, 7, 1));
        refused("set of none", Due.PLACE, x -> x.set(BARE, 0, 1));
        refused("copy to no sheet from a missing one", Due.BAD, x -> x.copy(MISSING, -1, 8, 0, 1));
        refused("copy from a missing one", Due.NULL, x -> x.copy(MISSING, -1, BYTES, 0, 1));
        refused("copy to a missing one", Due.NULL, x -> x.copy(BYTES, -1, MISSING, 0, 1));
        refused("copy of two lanes, no place", Due.STORE, x -> x.copy(INTS, -1, BYTES, 5, -1));
        refused("copy beyond the end", Due.PLACE, x -> x.copy(INTS, 0, ZEROES, 0, 5));
        refused("copy of fewer than none", Due.PLACE, x -> x.copy(INTS, 1, ZEROES, 1, -1));
        refused("drop no sheet", Due.BAD, x -> x.drop(8));
        refused("drop a missing one", Due.NULL, x -> x.drop(MISSING));
    }

    private static void things() {
        refused("part, hangs, no side", Due.BAD, x -> x.part(HUNG, MISSING, -1, 13, 1));
        refused("part, hangs, no sheet", Due.BAD, x -> x.part(HUNG, 8, 0, 1, 1));
        refused("part, hangs, missing", Due.STATE, x -> x.part(HUNG, MISSING, -1, 1, 1));
        refused("part, hangs, no place", Due.STATE, x -> x.part(HUNG, INTS, -1, 1, 1));
        refused("part, hangs, a wrong item", Due.STATE, x -> x.part(HUNG, INTS, 6, 1, 1));
        refused("part, missing, no place", Due.NULL, x -> x.part(PLATE, MISSING, -1, 1, 1));
        refused("part, no place, a wrong item", Due.PLACE, x -> x.part(PLATE, INTS, 6, 2, 1));
        refused("part, a wrong item", Due.BAD, x -> x.part(PLATE, INTS, 5, 2, 1));
        refused("part, no cell", Due.BAD, x -> x.part(PLATE, ZEROES, 0, 2, 2));
        refused("part at no place", Due.BAD, x -> x.part(10, INTS, 0, 1, 1));
        refused("layers, hangs, no wall", Due.BAD, x -> x.layers(HUNG, MISSING, -1, 2, 10001));
        refused("layers, hangs, too few", Due.BAD, x -> x.layers(HUNG, INTS, 0, 1, 0));
        refused("layers, hangs, missing", Due.STATE, x -> x.layers(HUNG, MISSING, -1, 2, 0));
        refused("layers, hangs, no place", Due.STATE, x -> x.layers(HUNG, INTS, 6, 2, 0));
        refused("layers, hangs, a wrong item", Due.STATE, x -> x.layers(HUNG, LONGS, 1, 2, 0));
        refused("layers, missing, no place", Due.NULL, x -> x.layers(LAYERS, MISSING, -1, 2, 0));
        refused("layers, no place, a wrong item", Due.PLACE, x -> x.layers(LAYERS, LONGS, 2, 2, 0));
        refused("layers, a wrong item", Due.BAD, x -> x.layers(LAYERS, LONGS, 1, 2, 0));
        refused("clear no place", Due.BAD, x -> x.clear(10));
        refused("clear what hangs", Due.STATE, x -> x.clear(HUNG));
        refused("kind of no place", Due.BAD, x -> x.kind(10));
        refused("kind of nothing", Due.NULL, x -> x.kind(EMPTY));
        refused("is of no place", Due.BAD, x -> x.is(10, 0));
        refused("is of no kind", Due.BAD, x -> x.is(EMPTY, 5));
        refused("ask no place", Due.BAD, x -> x.ask(10, 0));
        refused("ask nothing for nothing", Due.BAD, x -> x.ask(EMPTY, 2));
    }

    private static void parts() {
        for (int cell : new int[] {0, -1}) {
            refused("gate at no place", Due.BAD, x -> x.gate(10, cell));
            refused("gate of nothing", Due.NULL, x -> x.gate(EMPTY, cell));
            refused("gate of layers", Due.KIND, x -> x.gate(LAYERS, cell));
            refused("vent at no place", Due.BAD, x -> x.vent(10, cell));
            refused("vent of nothing", Due.NULL, x -> x.vent(EMPTY, cell));
            refused("vent of layers", Due.KIND, x -> x.vent(LAYERS, cell));
            refused("cell, no what, nothing", Due.BAD, x -> x.cell(EMPTY, cell, 5));
            refused("cell, no what, layers", Due.BAD, x -> x.cell(LAYERS, cell, -1));
            refused("cell of nothing", Due.NULL, x -> x.cell(EMPTY, cell, 0));
            refused("cell of layers", Due.KIND, x -> x.cell(LAYERS, cell, 1));
            refused("meeting, no which, nothing", Due.BAD, x -> x.meeting(EMPTY, cell, 2));
            refused("meeting, no which, layers", Due.BAD, x -> x.meeting(LAYERS, cell, -1));
            refused("meeting of nothing", Due.NULL, x -> x.meeting(EMPTY, cell, 0));
            refused("meeting of layers", Due.KIND, x -> x.meeting(LAYERS, cell, 0));
            refused("trap of nothing", Due.NULL, x -> x.trap(EMPTY, cell));
            refused("trap of layers", Due.KIND, x -> x.trap(LAYERS, cell));
            refused("force of no place", Due.BAD, x -> x.force(-1, cell));
            refused("force of nothing", Due.NULL, x -> x.force(EMPTY, cell));
            refused("force of layers", Due.KIND, x -> x.force(LAYERS, cell));
        }
        refused("gate where there is no cell", Due.BAD, x -> x.gate(HUNG, 3));
        refused("gate twice", Due.BAD, x -> x.gate(HUNG, 0));
        refused("gate twice, full", Due.BAD, x -> x.gate(GATED, 0));
        refused("gate where there is no cell, full", Due.BAD, x -> x.gate(GATED, 3));
        refused("gate, full", Due.FULL, x -> x.gate(GATED, 5));
        refused("gate where there is no cell", Due.BAD, x -> x.gate(EVEN, 0));
        refused("vent where there is no cell", Due.BAD, x -> x.vent(HUNG, 3));
        refused("vent behind the end", Due.BAD, x -> x.vent(HUNG, 6));
        refused("cell behind the end", Due.BAD, x -> x.cell(HUNG, 6, 0));
        refused("trap of no place", Due.BAD, x -> x.trap(10, 0));
        refused("best of no place", Due.BAD, x -> x.best(10));
        refused("best of nothing", Due.NULL, x -> x.best(EMPTY));
        refused("best of layers", Due.KIND, x -> x.best(LAYERS));
    }

    private static void runners() {
        refused("branch, no parent, full", Due.BAD, x -> x.branch(8, 1, 1));
        refused("branch, no length, full", Due.BAD, x -> x.branch(0, 51, 1));
        refused("branch, no size, full", Due.BAD, x -> x.branch(0, 1, 10));
        refused("branch, full", Due.FULL, x -> x.branch(Due.NONE, 1, 1));
        refused("hang at no branch what hangs", Due.BAD, x -> x.hang(8, HUNG));
        refused("hang no place where one hangs", Due.BAD, x -> x.hang(1, 10));
        refused("hang nothing where one hangs", Due.STATE, x -> x.hang(1, EMPTY));
        refused("hang layers where one hangs", Due.STATE, x -> x.hang(1, LAYERS));
        refused("hang where one hangs", Due.STATE, x -> x.hang(1, PLATE));
        refused("hang what hangs", Due.STATE, x -> x.hang(0, HUNG));
        refused("hang nothing", Due.NULL, x -> x.hang(0, EMPTY));
        refused("hang layers", Due.KIND, x -> x.hang(0, LAYERS));
        refused("end of no branch", Due.BAD, x -> x.end(8));
        refused("runners of no kind", Due.BAD, x -> x.runners(3));
        refused("balance of none", Due.BAD, x -> x.balance(0));
        refused("balance of four", Due.BAD, x -> x.balance(30));
        refused("balance of another bit", Due.BAD, x -> x.balance(1 << 10 | 2));
        refused("size of no branch", Due.BAD, x -> x.size(8));
    }

    private static void layers() {
        for (int place : new int[] {LAYERS, PLATE, EMPTY}) {
            refused("beat none", Due.BAD, x -> x.beat(place, 0, 1, 0));
            refused("beat by none", Due.BAD, x -> x.beat(place, 1, 0, 0));
            refused("beat till none", Due.BAD, x -> x.beat(place, 1, 1, -1));
        }
        refused("beat no place", Due.BAD, x -> x.beat(10, 1, 1, 0));
        refused("beat nothing", Due.NULL, x -> x.beat(EMPTY, 1, 1, 0));
        refused("beat a part", Due.KIND, x -> x.beat(PLATE, 1, 1, 0));
        refused("warmth of no place", Due.BAD, x -> x.warmth(10, Due.NONE));
        refused("warmth of nothing, no layer", Due.NULL, x -> x.warmth(EMPTY, -1));
        refused("warmth of a part, no layer", Due.KIND, x -> x.warmth(PLATE, -1));
        refused("warmth of no layer", Due.BAD, x -> x.warmth(LAYERS, 2));
    }

    private static void presses() {
        refused("press, no force, full", Due.BAD, x -> x.press(1000001));
        refused("press, full", Due.FULL, x -> x.press(1));
        refused("job, no force, full", Due.BAD, x -> x.job(-1, 0, 1));
        refused("job, no colour, full", Due.BAD, x -> x.job(0, 10, 1));
        refused("job, no time, full", Due.BAD, x -> x.job(0, 0, 1001));
        refused("job, full", Due.FULL, x -> x.job(0, 0, 1));
        refused("planned on no press", Due.BAD, x -> x.planned(6, 0));
        refused("load of no press", Due.BAD, x -> x.load(6, 0));
        refused("load of no kind", Due.BAD, x -> x.load(0, 3));
        refused("count of no kind", Due.BAD, x -> x.count(7));
    }

    private static void findings() {
        Edge.of(0, "FULL (as told), then FINDINGS, of several the first in time: -1000010 less 1 NULL (a SHEET that is missing, "
            + "a place without a thing), 2 PLACE (no such place of a SHEET), 3 KIND (a thing that is not that), "
            + "4 SIZE (fewer than none), 5 STORE (SHEETS of two LANES)");
        HollowPress x = world();
        Edge.is("full", x.gate(GATED, 5), -1000003);
        Edge.is("null", x.set(MISSING, 0, 1), -1000011);
        Edge.is("null", x.kind(EMPTY), -1000011);
        Edge.is("place", x.set(INTS, 7, 1), -1000012);
        Edge.is("kind", x.beat(PLATE, 1, 1, 0), -1000013);
        Edge.is("size", x.sheet(INTS, 1, -1), -1000014);
        Edge.is("store", x.copy(INTS, 0, BYTES, 0, 0), -1000015);
    }

    private static void changeNothing() {
        Edge.of(0, "What is refused, or found, changes nothing but status(), if nothing else is told");
        List<Long> untouched = told(world());
        for (Call c : CALLS) {
            HollowPress x = world();
            c.call.applyAsLong(x);
            Edge.is(c.name + ": what is as it was", alike(told(x), untouched), untouched.size());
        }
    }

    private static int alike(List<Long> a, List<Long> b) {
        int many = 0;
        for (int i = 0; i < b.size(); i++) {
            if (a.get(i).equals(b.get(i))) many++;
        }
        return many;
    }

    private static void statusOfRefusals() {
        Edge.of(35, "Of the latest call with a SHEET or a place (but clear(), is()) that was not BAD, STATE, FULL");
        for (Call c : CALLS) {
            if (c.due < Due.FULL) continue;
            HollowPress x = world();
            x.copy(INTS, 0, BYTES, 0, 0);
            c.call.applyAsLong(x);
            Edge.is("a finding stays behind " + c.name, x.status(), 5);
            x.kind(PLATE);
            c.call.applyAsLong(x);
            Edge.is("none stays behind " + c.name, x.status(), 0);
        }
    }

    private static void statusOfFindings() {
        Edge.of(35, "the number of its FINDING");
        for (Call c : CALLS) {
            if (c.due >= Due.FULL) continue;
            HollowPress x = world();
            c.call.applyAsLong(x);
            Edge.is("behind none: " + c.name, x.status(), -1000010 - c.due);
            x.kind(EMPTY);
            c.call.applyAsLong(x);
            Edge.is("behind null: " + c.name, x.status(), -1000010 - c.due);
            x.sheet(0, 0, -1);
            c.call.applyAsLong(x);
            Edge.is("behind size: " + c.name, x.status(), -1000010 - c.due);
        }
        HollowPress x = world();
        x.sheet(0, 0, -1);
        Edge.is("ask nothing", x.ask(EMPTY, 0), Due.NULL);
        Edge.is("null", x.status(), 1);
    }

    private static void statusOfAnswers() {
        Edge.of(35, "0: it had none, or there was none");
        CALLS.clear();
        refused("sheet", 0, x -> x.sheet(MISSING, 0, 0));
        refused("set", 3, x -> x.set(INTS, 0, 3));
        refused("set what looks like BAD", Due.BAD, x -> x.set(LONGS, 0, Due.BAD));
        refused("copy", 0, x -> x.copy(INTS, 7, INTS, 0, 0));
        refused("drop", 0, x -> x.drop(BARE));
        refused("part", 3, x -> x.part(PLATE, INTS, 0, 1, 1));
        refused("layers", 4, x -> x.layers(EMPTY, INTS, 0, 2, 0));
        refused("kind", 4, x -> x.kind(LAYERS));
        refused("ask", 2, x -> x.ask(LAYERS, 0));
        refused("gate", 1, x -> x.gate(PLATE, 0));
        refused("vent", 0, x -> x.vent(HUNG, 2));
        for (int what = 1; what <= 4; what++) {
            int asked = what;
            refused("cell", Due.NONE, x -> x.cell(HUNG, 3, asked));
        }
        refused("cell", 0, x -> x.cell(HUNG, 3, 0));
        refused("meeting", Due.NONE, x -> x.meeting(PLATE, 0, 0));
        refused("trap", Due.NONE, x -> x.trap(PLATE, 9));
        refused("force", Due.NONE, x -> x.force(PLATE, 9));
        refused("force", 0, x -> x.force(PLATE, 0));
        refused("best", Due.NONE, x -> x.best(HUNG));
        refused("hang", 3, x -> x.hang(0, PLATE));
        refused("beat", 0, x -> x.beat(LAYERS, 1, 1, 10000));
        refused("warmth", 10000 - 618 - 625, x -> x.warmth(LAYERS, 0));
        refused("given", 618 - 6, x -> x.warmth(LAYERS, Due.NONE));
        for (Call c : CALLS) {
            HollowPress x = world();
            x.copy(INTS, 0, BYTES, 0, 0);
            Edge.is(c.name, c.call.applyAsLong(x), c.due);
            Edge.is("behind " + c.name, x.status(), 0);
            Edge.is("asked again behind " + c.name, x.status(), 0);
        }
    }

    private static void statusOfOthers() {
        Edge.of(35, "Of the latest call with a SHEET or a place (but clear(), is())");
        HollowPress x = world();
        x.copy(INTS, 0, BYTES, 0, 0);
        Edge.is("clear", x.clear(PLATE), 1);
        Edge.is("clear nothing", x.clear(PLATE), 0);
        Edge.is("is", x.is(EVEN, 0), 1);
        Edge.is("is of nothing", x.is(EMPTY, 0), 0);
        x.trace(0);
        x.end(0);
        x.runners(0);
        x.balance(2);
        x.size(0);
        Edge.is("strip", x.strip(), 8);
        Edge.is("branch", x.branch(Due.NONE, 1, 1), 0);
        x.plan();
        x.planned(0, 0);
        x.load(0, 0);
        x.count(0);
        Edge.is("it stays", x.status(), 5);
        HollowPress y = new HollowPress();
        y.kind(0);
        y.press(1);
        y.job(1, 1, 1);
        y.clear(0);
        Edge.is("it stays", y.status(), 1);
    }

    private static void statusAtFirst() {
        Edge.of(35, "0: it had none, or there was none");
        Edge.is("a new object", new HollowPress().status(), 0);
        HollowPress x = new HollowPress();
        x.kind(10);
        x.sheet(0, 0, 145);
        Edge.is("refused alone", x.status(), 0);
    }
}
