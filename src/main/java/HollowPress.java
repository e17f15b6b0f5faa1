/**
 * Plastic pressed into moulds of hollows: sheets of numbers, a shelf of things (parts and layers),
 * runners that feed the parts, and presses that get jobs.
 */
public final class HollowPress {
    public static final int NONE = -1000000, BAD = -1000001, STATE = -1000002, FULL = -1000003;

    private static final int FINDING = -1000010;
    private static final int NULL = 1, PLACE = 2, KIND = 3, SIZE = 4, STORE = 5;

    private static final int SHEETS = 8, LANES = 3, MOST_ITEMS = 144;
    private static final int PLACES = 10, KINDS = 5, ASKS = 2;
    private static final int MOST_SIDE = 12, MOST_CELLS = 144, MOST_THICK = 9, MOST_GATES = 4;
    private static final int BRANCHES = 8, MOST_LENGTH = 50, MOST_SIZE = 9, MOST_IN_SET = 3;
    private static final int ALL_SIZES = 0x3FE;
    private static final int FEWEST_LAYERS = 2, MOST_LAYERS = 20, MOST_WARMTH = 10000;
    private static final int MOST_BEATS = 100, MOST_NUMBER = 5;
    private static final int PRESSES = 6, JOBS = 12, MOST_FORCE = 1000000;
    private static final int COLOURS = 10, MOST_TIME = 1000;
    private static final int DRAG = 5000;

    /** Above every sum that can come up. */
    private static final int MOST = 0x7FFFFFFF;

    private final Sheet[] sheets = new Sheet[SHEETS];
    private final Thing[] things = new Thing[PLACES];
    private final Trace asked = new Trace();
    private final Flow flow = new Flow();
    private final Runners tree = new Runners();
    private final Presses hall = new Presses();
    private int latest = 0;

    public HollowPress() {
    }

    // ---- sheets

    public int sheet(int sheet, int lane, int n) {
        if (!below(sheet, SHEETS) || !below(lane, LANES) || n > MOST_ITEMS) return BAD;
        if (n < 0) return found(SIZE);
        sheets[sheet] = new Sheet(lane, n);
        return fine(n);
    }

    public long set(int sheet, int i, long v) {
        if (!below(sheet, SHEETS)) return BAD;
        Sheet at = sheets[sheet];
        if (at == null) return found(NULL);
        if (!at.covers(i, 1)) return found(PLACE);
        latest = 0;
        return at.put(i, v);
    }

    public int copy(int a, int i, int b, int j, int n) {
        if (!below(a, SHEETS) || !below(b, SHEETS)) return BAD;
        Sheet from = sheets[a];
        Sheet to = sheets[b];
        if (from == null || to == null) return found(NULL);
        if (from.lane != to.lane) return found(STORE);
        if (!from.covers(i, n) || !to.covers(j, n)) return found(PLACE);
        System.arraycopy(from.items, i, to.items, j, n);
        return fine(n);
    }

    public int drop(int sheet) {
        if (!below(sheet, SHEETS)) return BAD;
        Sheet at = sheets[sheet];
        if (at == null) return found(NULL);
        sheets[sheet] = null;
        return fine(at.items.length);
    }

    // ---- things

    public int part(int place, int sheet, int i, int w, int h) {
        if (!below(place, PLACES) || !below(sheet, SHEETS)) return BAD;
        if (!among(w, 1, MOST_SIDE) || !among(h, 1, MOST_SIDE)) return BAD;
        if (tree.holds(things[place])) return STATE;
        Sheet from = sheets[sheet];
        if (from == null) return found(NULL);
        if (!from.covers(i, w * h)) return found(PLACE);
        if (!from.allAmong(i, w * h, MOST_THICK) || !from.hasMoreThanZero(i, w * h)) return BAD;
        return fine(shelve(place, newPart(w, h, from.slice(i, w * h))));
    }

    public int layers(int place, int sheet, int i, int n, int wall) {
        if (!below(place, PLACES) || !below(sheet, SHEETS)) return BAD;
        if (!among(n, FEWEST_LAYERS, MOST_LAYERS) || !among(wall, 0, MOST_WARMTH)) return BAD;
        if (tree.holds(things[place])) return STATE;
        Sheet from = sheets[sheet];
        if (from == null) return found(NULL);
        if (!from.covers(i, n)) return found(PLACE);
        if (!from.allAmong(i, n, MOST_WARMTH)) return BAD;
        return fine(shelve(place, new Layers(from.slice(i, n), wall)));
    }

    public int clear(int place) {
        if (!below(place, PLACES)) return BAD;
        if (tree.holds(things[place])) return STATE;
        if (things[place] == null) return 0;
        things[place] = null;
        return 1;
    }

    public int kind(int place) {
        if (!below(place, PLACES)) return BAD;
        Thing thing = things[place];
        if (thing == null) return found(NULL);
        return fine(thing.told());
    }

    public int is(int place, int kind) {
        if (!below(place, PLACES) || !below(kind, KINDS)) return BAD;
        return isOfKind(things[place], kind) ? 1 : 0;
    }

    public int ask(int place, int what) {
        if (!below(place, PLACES) || !below(what, ASKS)) return BAD;
        asked.wipe();
        Thing thing = things[place];
        if (thing == null) return found(NULL);
        return fine(what == 0 ? thing.weigh(asked) : thing.mark(asked));
    }

    public int trace(int i) {
        return asked.number(i);
    }

    // ---- parts

    public int gate(int place, int cell) {
        if (!below(place, PLACES)) return BAD;
        if (!(things[place] instanceof Part part)) return otherThing(place);
        if (part.thickness(cell) == 0 || part.hasGate(cell)) return BAD;
        int number = part.addGate(cell);
        if (number == FULL) return FULL;
        part.ends = flow.endsOf(part);
        return fine(number);
    }

    public int vent(int place, int cell) {
        if (!below(place, PLACES)) return BAD;
        if (!(things[place] instanceof Part part)) return otherThing(place);
        if (part.thickness(cell) == 0) return BAD;
        return fine(part.turnVent(cell) ? 1 : 0);
    }

    public int cell(int place, int cell, int what) {
        if (!below(place, PLACES) || !among(what, 0, 4)) return BAD;
        if (!(things[place] instanceof Part part)) return otherThing(place);
        if (!below(cell, part.thick.length)) return BAD;
        if (what == 0) return fine(part.thickness(cell));
        flow.fill(part);
        if (what == 1) return fine(flow.strain(cell));
        if (what == 2) return fine(flow.front(cell));
        if (what == 3) return fine(flow.rank(cell));
        return fine(flow.filledUpTo(cell, part));
    }

    public int meeting(int place, int i, int which) {
        if (!below(place, PLACES) || !below(which, 2)) return BAD;
        if (!(things[place] instanceof Part part)) return otherThing(place);
        flow.fill(part);
        return fine(flow.cellOfMeeting(i, which));
    }

    public int trap(int place, int i) {
        if (!below(place, PLACES)) return BAD;
        if (!(things[place] instanceof Part part)) return otherThing(place);
        flow.fill(part);
        return fine(flow.cellOfTrap(i, part));
    }

    public long force(int place, int i) {
        if (!below(place, PLACES)) return BAD;
        if (!(things[place] instanceof Part part)) return otherThing(place);
        flow.fill(part);
        latest = 0;
        return flow.forceAt(i);
    }

    public int best(int place) {
        if (!below(place, PLACES)) return BAD;
        if (!(things[place] instanceof Part part)) return otherThing(place);
        if (!part.bestKnown) {
            part.bestGate = flow.bestGate(part);
            part.bestKnown = true;
        }
        return fine(part.bestGate);
    }

    // ---- runners

    public int branch(int parent, int length, int size) {
        if (parent != NONE && !below(parent, tree.branches)) return BAD;
        if (!among(length, 1, MOST_LENGTH) || !among(size, 1, MOST_SIZE)) return BAD;
        return tree.grow(parent, length, size);
    }

    public int hang(int branch, int place) {
        if (!below(branch, tree.branches) || !below(place, PLACES)) return BAD;
        if (tree.taken(branch) || tree.holds(things[place])) return STATE;
        if (!(things[place] instanceof Part part)) return otherThing(place);
        return fine(tree.hangAt(branch, part));
    }

    public int strip() {
        return tree.fell();
    }

    public int end(int branch) {
        if (!below(branch, tree.branches)) return BAD;
        return tree.endAt(branch);
    }

    public int runners(int what) {
        if (what == 0) return tree.spread();
        if (what == 1) return tree.mass();
        if (what == 2) return tree.howManyHang();
        return BAD;
    }

    public int balance(int set) {
        if (set == 0 || (set & ~ALL_SIZES) != 0 || Integer.bitCount(set) > MOST_IN_SET) return BAD;
        tree.takeBestSizes(set);
        return tree.spread();
    }

    public int size(int branch) {
        if (!below(branch, tree.branches)) return BAD;
        return tree.sizes[branch];
    }

    // ---- layers

    public int beat(int place, int n, int number, int e) {
        if (!below(place, PLACES) || !among(n, 1, MOST_BEATS)) return BAD;
        if (!among(number, 1, MOST_NUMBER) || !among(e, 0, MOST_WARMTH)) return BAD;
        if (!(things[place] instanceof Layers layers)) return otherThing(place);
        return fine(layers.beatTill(n, number, e));
    }

    public int warmth(int place, int layer) {
        if (!below(place, PLACES)) return BAD;
        if (!(things[place] instanceof Layers layers)) return otherThing(place);
        if (layer == NONE) return fine(layers.given);
        if (!below(layer, layers.warm.length)) return BAD;
        return fine(layers.warm[layer]);
    }

    // ---- presses

    public int press(int force) {
        if (!among(force, 0, MOST_FORCE)) return BAD;
        return hall.addPress(force);
    }

    public int job(int force, int colour, int time) {
        if (!among(force, 0, MOST_FORCE) || !below(colour, COLOURS)) return BAD;
        if (!among(time, 1, MOST_TIME)) return BAD;
        return hall.addJob(force, colour, time);
    }

    public int plan() {
        return hall.makePlan();
    }

    public int planned(int press, int i) {
        if (!below(press, hall.presses)) return BAD;
        return hall.jobOn(press, i);
    }

    public int load(int press, int what) {
        if (!below(press, hall.presses)) return BAD;
        if (what == 0) return hall.lengths[press];
        if (what == 1) return hall.times[press];
        if (what == 2) return hall.pains(press);
        return BAD;
    }

    public int count(int what) {
        if (what == 0) return sheetsThere();
        if (what == 1) return thingsOfKind(0);
        if (what == 2) return thingsOfKind(1);
        if (what == 3) return thingsOfKind(2);
        if (what == 4) return tree.branches;
        if (what == 5) return hall.presses;
        if (what == 6) return hall.jobs;
        return BAD;
    }

    public int status() {
        return latest;
    }

    // ---- what several calls share

    private static boolean below(int i, int n) {
        return i >= 0 && i < n;
    }

    private static boolean among(int i, int least, int most) {
        return i >= least && i <= most;
    }

    private int found(int finding) {
        latest = finding;
        return FINDING - finding;
    }

    private int fine(int answer) {
        latest = 0;
        return answer;
    }

    /** The finding for a place whose thing is not the one that a call is for. */
    private int otherThing(int place) {
        return found(things[place] == null ? NULL : KIND);
    }

    private int shelve(int place, Thing thing) {
        things[place] = thing;
        return thing.told();
    }

    private static Part newPart(int w, int h, int[] thick) {
        if (!allCellsAlike(thick)) return new Part(w, h, thick);
        for (int t : thick) {
            if (t == 0) return new EvenPart(w, h, thick);
        }
        return new Plate(w, h, thick);
    }

    private static boolean allCellsAlike(int[] thick) {
        int first = 0;
        for (int t : thick) {
            if (first == 0) first = t;
            if (t != 0 && t != first) return false;
        }
        return true;
    }

    private static boolean isOfKind(Thing thing, int kind) {
        return thing != null && thing.isOf(kind);
    }

    private int sheetsThere() {
        int there = 0;
        for (Sheet sheet : sheets) {
            if (sheet != null) there++;
        }
        return there;
    }

    private int thingsOfKind(int kind) {
        int many = 0;
        for (Thing thing : things) {
            if (isOfKind(thing, kind)) many++;
        }
        return many;
    }

    /** A row of items; all lanes are kept as longs that hold no more bits than the lane has. */
    private static final class Sheet {
        final int lane;
        final long[] items;

        Sheet(int lane, int n) {
            this.lane = lane;
            this.items = new long[Math.max(n, 0)];
        }

        /** Written without i + n, which could wrap around. */
        boolean covers(int i, int n) {
            return i >= 0 && n >= 0 && n <= items.length && i <= items.length - n;
        }

        long put(int i, long v) {
            long kept = v;
            if (lane == 0) kept = (byte) v;
            if (lane == 1) kept = (int) v;
            if (below(i, items.length)) items[i] = kept;
            return kept;
        }

        boolean allAmong(int i, int n, int most) {
            if (!covers(i, n)) return false;
            for (int k = i; k < i + n; k++) {
                if (items[k] < 0 || items[k] > most) return false;
            }
            return true;
        }

        boolean hasMoreThanZero(int i, int n) {
            if (!covers(i, n)) return false;
            for (int k = i; k < i + n; k++) {
                if (items[k] > 0) return true;
            }
            return false;
        }

        int[] slice(int i, int n) {
            if (!covers(i, n)) return new int[0];
            int[] row = new int[n];
            for (int k = 0; k < n; k++) row[k] = (int) items[i + k];
            return row;
        }
    }

    /** The numbers of the bodies that began in the latest ask. */
    private static final class Trace {
        private final int[] numbers = new int[16];
        private int length = 0;

        void wipe() {
            length = 0;
        }

        void leave(int number) {
            if (length < numbers.length) {
                numbers[length] = number;
                length++;
            }
        }

        int number(int i) {
            return below(i, length) ? numbers[i] : NONE;
        }
    }

    /** What may stand at a place of the shelf; its bodies 10 and 20 are lent to all. */
    private abstract static class Thing {
        abstract int told();

        boolean isOf(int kind) {
            return kind == 0;
        }

        int weigh(Trace trace) {
            trace.leave(10);
            return 1;
        }

        int mark(Trace trace) {
            trace.leave(20);
            return weigh(trace) + 5;
        }
    }

    private static class Part extends Thing {
        final int w;
        final int h;
        final int[] thick;
        final boolean[] vented;
        final int[] gates = new int[MOST_GATES];
        int gateCount = 0;
        int ends = 0;
        boolean bestKnown = false;
        int bestGate = NONE;

        Part(int w, int h, int[] thick) {
            this.w = w;
            this.h = h;
            this.thick = thick;
            this.vented = new boolean[thick.length];
        }

        int told() {
            return 1;
        }

        boolean isOf(int kind) {
            return kind == 1 || super.isOf(kind);
        }

        int weigh(Trace trace) {
            trace.leave(11);
            int sum = 0;
            for (int t : thick) sum += t;
            return sum + super.weigh(trace);
        }

        /** 0 where there is no cell, and outside of the part. */
        int thickness(int cell) {
            return below(cell, thick.length) ? thick[cell] : 0;
        }

        int drag(int cell) {
            int t = thickness(cell);
            return t > 0 ? DRAG / (t * t * t) : 0;
        }

        boolean hasGate(int cell) {
            for (int k = 0; k < gateCount; k++) {
                if (gates[k] == cell) return true;
            }
            return false;
        }

        int addGate(int cell) {
            if (gateCount >= MOST_GATES) return FULL;
            gates[gateCount] = cell;
            gateCount++;
            return gateCount - 1;
        }

        boolean hasVent(int cell) {
            return below(cell, vented.length) && vented[cell];
        }

        boolean turnVent(int cell) {
            if (!below(cell, vented.length)) return false;
            vented[cell] = !vented[cell];
            return vented[cell];
        }
    }

    private static class EvenPart extends Part {
        EvenPart(int w, int h, int[] thick) {
            super(w, h, thick);
        }

        int told() {
            return 2;
        }

        boolean isOf(int kind) {
            return kind == 2 || super.isOf(kind);
        }

        int weigh(Trace trace) {
            trace.leave(12);
            return super.weigh(trace) + gateCount;
        }
    }

    private static final class Plate extends EvenPart {
        Plate(int w, int h, int[] thick) {
            super(w, h, thick);
        }

        int told() {
            return 3;
        }

        boolean isOf(int kind) {
            return kind == 3 || super.isOf(kind);
        }

        int mark(Trace trace) {
            trace.leave(21);
            return 2 * super.mark(trace);
        }
    }

    private static final class Layers extends Thing {
        final int[] warm;
        final int wall;
        int given = 0;

        Layers(int[] warm, int wall) {
            this.warm = warm;
            this.wall = wall;
        }

        int told() {
            return 4;
        }

        boolean isOf(int kind) {
            return kind == 4 || super.isOf(kind);
        }

        int weigh(Trace trace) {
            trace.leave(13);
            return warm.length;
        }

        int mark(Trace trace) {
            trace.leave(22);
            return greatest();
        }

        private int greatest() {
            int most = 0;
            for (int warmth : warm) most = Math.max(most, warmth);
            return most;
        }

        int beatTill(int n, int number, int e) {
            int done = 0;
            while (done < n && greatest() > e) {
                beatOnce(number);
                done++;
            }
            return done;
        }

        /** Goes from the left: the layer to the right still has its warmth ahead of the beat. */
        private void beatOnce(int number) {
            if (warm.length == 0) return;
            int coming = (wall - warm[0]) * number / 16;
            given -= coming;
            for (int k = 0; k < warm.length; k++) {
                int right = k + 1 < warm.length ? warm[k + 1] : wall;
                int going = (warm[k] - right) * number / 16;
                warm[k] += coming - going;
                coming = going;
            }
            given += coming;
        }
    }

    /** How one part fills; kept till another part, or the same with more gates, is asked for. */
    private static final class Flow {
        private static final int NO_WAY = MOST;
        private static final int WAYS = 4;

        private final int[] drags = new int[MOST_CELLS];
        /** Of each cell the cells to the right, below, to the left, above; NONE: no cell there. */
        private final int[] beside = new int[WAYS * MOST_CELLS];
        /** Strain times MOST_GATES, and the front: so the least one has the least front, too. */
        private final int[] least = new int[MOST_CELLS];
        private final int[] order = new int[MOST_CELLS];
        private final int[] ranks = new int[MOST_CELLS];
        private final int[] endsAtLeast = new int[MOST_CELLS];
        private int cells = 0;
        private int filled = 0;
        private Part of = null;
        private int gatesThen = 0;

        void fill(Part part) {
            if (of == part && gatesThen == part.gateCount) return;
            layOut(part);
            for (int g = 0; g < part.gateCount; g++) startAt(part.gates[g], g);
            flowOn();
            putInOrder();
            of = part;
            gatesThen = part.gateCount;
        }

        int endsOf(Part part) {
            fill(part);
            return filled > 0 ? strain(order[filled - 1]) : 0;
        }

        int strain(int cell) {
            return reached(cell) ? least[cell] / MOST_GATES : NONE;
        }

        int front(int cell) {
            return reached(cell) ? least[cell] % MOST_GATES : NONE;
        }

        int rank(int cell) {
            return reached(cell) ? ranks[cell] : NONE;
        }

        int filledUpTo(int cell, Part part) {
            if (!reached(cell)) return NONE;
            int sum = 0;
            for (int r = 0; r <= ranks[cell]; r++) sum += part.thickness(order[r]);
            return sum;
        }

        int cellOfMeeting(int i, int which) {
            int met = 0;
            for (int cell = 0; cell < cells; cell++) {
                for (int way = 0; way < 2; way++) {
                    int other = beside[WAYS * cell + way];
                    if (other == NONE || front(cell) == front(other)) continue;
                    if (met == i) return which == 0 ? cell : other;
                    met++;
                }
            }
            return NONE;
        }

        int cellOfTrap(int i, Part part) {
            int caught = 0;
            for (int cell = 0; cell < cells; cell++) {
                if (!reached(cell) || part.hasVent(cell) || !isLastAround(cell)) continue;
                if (caught == i) return cell;
                caught++;
            }
            return NONE;
        }

        long forceAt(int i) {
            if (!below(i, filled)) return NONE;
            long now = strain(order[i]);
            long sum = 0;
            for (int r = 0; r <= i; r++) sum += now - strain(order[r]);
            return sum;
        }

        /**
         * A way is one backwards, too: where one cell can't reach all, none can; and since each trial
         * also tells what the ends from every other cell are at least, most cells need none of their own.
         */
        int bestGate(Part part) {
            of = null;
            int bestCell = NONE;
            int bestEnds = NO_WAY;
            layOut(part);
            for (int c = 0; c < cells; c++) endsAtLeast[c] = 0;
            for (int c = 0; c < cells; c++) {
                if (drags[c] == 0 || endsAtLeast[c] >= bestEnds) continue;
                empty();
                startAt(c, 0);
                flowOn();
                int ends = endsOfTrial();
                if (ends == NO_WAY) return NONE;
                if (ends < bestEnds) {
                    bestEnds = ends;
                    bestCell = c;
                }
            }
            return bestCell;
        }

        /** NO_WAY, if there is a cell without strain. */
        private int endsOfTrial() {
            int ends = 0;
            for (int c = 0; c < cells; c++) {
                if (drags[c] == 0) continue;
                if (!reached(c)) return NO_WAY;
                int strain = strain(c);
                ends = Math.max(ends, strain);
                endsAtLeast[c] = Math.max(endsAtLeast[c], strain);
            }
            return ends;
        }

        private boolean reached(int cell) {
            return below(cell, cells) && least[cell] != NO_WAY;
        }

        private boolean isLastAround(int cell) {
            for (int way = 0; way < WAYS; way++) {
                int other = beside[WAYS * cell + way];
                if (other != NONE && reached(other) && ranks[other] > ranks[cell]) return false;
            }
            return true;
        }

        private void layOut(Part part) {
            cells = Math.min(part.thick.length, MOST_CELLS);
            for (int c = 0; c < cells; c++) drags[c] = part.drag(c);
            for (int y = 0; y < part.h; y++) {
                for (int x = 0; x < part.w; x++) {
                    int c = y * part.w + x;
                    join(c, 0, c + 1, x + 1 < part.w);
                    join(c, 1, c + part.w, y + 1 < part.h);
                    join(c, 2, c - 1, x > 0);
                    join(c, 3, c - part.w, y > 0);
                }
            }
            empty();
        }

        private void join(int c, int way, int other, boolean inside) {
            if (!below(c, cells)) return;
            boolean both = inside && below(other, cells) && drags[c] > 0 && drags[other] > 0;
            beside[WAYS * c + way] = both ? other : NONE;
        }

        private void empty() {
            filled = 0;
            for (int c = 0; c < cells; c++) least[c] = NO_WAY;
        }

        private void startAt(int cell, int number) {
            if (below(cell, cells)) least[cell] = MOST_GATES * drags[cell] + number;
        }

        /** Every round makes at least one more cell final, so as many rounds as cells are enough. */
        private void flowOn() {
            boolean changed = true;
            for (int round = 0; round < cells && changed; round++) {
                changed = false;
                for (int c = 0; c < cells; c++) {
                    if (ease(c)) changed = true;
                }
                for (int c = cells - 1; c >= 0; c--) {
                    if (ease(c)) changed = true;
                }
            }
        }

        private boolean ease(int c) {
            int from = NO_WAY;
            for (int k = WAYS * c; k < WAYS * c + WAYS; k++) {
                int other = beside[k];
                if (other != NONE && least[other] < from) from = least[other];
            }
            if (from == NO_WAY) return false;
            int now = from + MOST_GATES * drags[c];
            if (now >= least[c]) return false;
            least[c] = now;
            return true;
        }

        /** Cells come by places, and each goes behind those of its own strain. */
        private void putInOrder() {
            filled = 0;
            for (int c = 0; c < cells; c++) {
                if (!reached(c)) continue;
                int r = filled;
                while (r > 0 && strain(order[r - 1]) > strain(c)) {
                    order[r] = order[r - 1];
                    r--;
                }
                order[r] = c;
                filled++;
            }
            for (int r = 0; r < filled; r++) ranks[order[r]] = r;
        }
    }

    /** The branches and what hangs at them. */
    private static final class Runners {
        private final int[] parents = new int[BRANCHES];
        private final int[] lengths = new int[BRANCHES];
        final int[] sizes = new int[BRANCHES];
        private final Part[] hung = new Part[BRANCHES];
        int branches = 0;

        /** The drags from the sprue up to each branch, its own, too. */
        private final int[] drags = new int[BRANCHES];
        private final int[] trial = new int[BRANCHES];
        private final int[] choice = new int[MOST_IN_SET];
        private int choices = 0;
        private int leastSpread = 0;
        private int leastMass = 0;

        int grow(int parent, int length, int size) {
            if (branches >= BRANCHES) return FULL;
            parents[branches] = parent;
            lengths[branches] = length;
            sizes[branches] = size;
            hung[branches] = null;
            branches++;
            return branches - 1;
        }

        int fell() {
            int were = branches;
            branches = 0;
            for (int b = 0; b < BRANCHES; b++) hung[b] = null;
            return were;
        }

        boolean holds(Thing thing) {
            if (thing == null) return false;
            for (int b = 0; b < branches; b++) {
                if (hung[b] == thing) return true;
            }
            return false;
        }

        boolean taken(int branch) {
            return hung[branch] != null;
        }

        int hangAt(int branch, Part part) {
            hung[branch] = part;
            return howManyHang();
        }

        int howManyHang() {
            int many = 0;
            for (int b = 0; b < branches; b++) {
                if (hung[b] != null) many++;
            }
            return many;
        }

        int mass() {
            int sum = 0;
            for (int b = 0; b < branches; b++) sum += lengths[b] * sizes[b] * sizes[b];
            return sum;
        }

        int endAt(int branch) {
            measure();
            Part part = hung[branch];
            return part == null ? NONE : drags[branch] + part.ends;
        }

        int spread() {
            measure();
            int low = MOST;
            int high = 0;
            for (int b = 0; b < branches; b++) {
                Part part = hung[b];
                if (part == null) continue;
                low = Math.min(low, drags[b] + part.ends);
                high = Math.max(high, drags[b] + part.ends);
            }
            return between(low, high);
        }

        void takeBestSizes(int set) {
            choices = 0;
            for (int s = 1; s <= MOST_SIZE; s++) {
                if ((set >> s & 1) == 1 && choices < MOST_IN_SET) {
                    choice[choices] = s;
                    choices++;
                }
            }
            leastSpread = MOST;
            leastMass = MOST;
            tryFrom(0, MOST, 0, 0);
        }

        /**
         * Sizes are tried in rising order, and only what is truly better goes on: so of equal ones
         * the least sizes stay. Neither spread nor mass falls as branches come in.
         */
        private void tryFrom(int b, int low, int high, int mass) {
            if (b >= branches || b >= BRANCHES) {
                leastSpread = between(low, high);
                leastMass = mass;
                System.arraycopy(trial, 0, sizes, 0, branches);
                return;
            }
            for (int k = 0; k < choices; k++) {
                int s = choice[k];
                trial[b] = s;
                drags[b] = dragUpTo(b, s);
                Part part = hung[b];
                int newLow = part == null ? low : Math.min(low, drags[b] + part.ends);
                int newHigh = part == null ? high : Math.max(high, drags[b] + part.ends);
                int newMass = mass + lengths[b] * s * s;
                int spread = between(newLow, newHigh);
                if (spread < leastSpread || spread == leastSpread && newMass < leastMass) {
                    tryFrom(b + 1, newLow, newHigh, newMass);
                }
            }
        }

        private void measure() {
            for (int b = 0; b < branches; b++) drags[b] = dragUpTo(b, sizes[b]);
        }

        /** Parents are earlier branches, so theirs is known. */
        private int dragUpTo(int b, int size) {
            int own = size > 0 ? lengths[b] * DRAG / (size * size * size) : 0;
            return below(parents[b], b) ? drags[parents[b]] + own : own;
        }

        private static int between(int low, int high) {
            return low < high ? high - low : 0;
        }
    }

    private static final class Presses {
        private final int[] pressForces = new int[PRESSES];
        private final int[] jobForces = new int[JOBS];
        private final int[] colours = new int[JOBS];
        private final int[] jobTimes = new int[JOBS];
        private final int[][] rows = new int[PRESSES][JOBS];
        final int[] lengths = new int[PRESSES];
        final int[] times = new int[PRESSES];
        int presses = 0;
        int jobs = 0;

        int addPress(int force) {
            if (presses >= PRESSES) return FULL;
            forgetPlan();
            pressForces[presses] = force;
            presses++;
            return presses - 1;
        }

        int addJob(int force, int colour, int time) {
            if (jobs >= JOBS) return FULL;
            forgetPlan();
            jobForces[jobs] = force;
            colours[jobs] = colour;
            jobTimes[jobs] = time;
            jobs++;
            return jobs - 1;
        }

        int makePlan() {
            forgetPlan();
            int left = 0;
            for (int j = 0; j < jobs; j++) {
                int press = pressFor(j);
                if (press == NONE) left++;
                else putOn(press, j);
            }
            return left;
        }

        int jobOn(int press, int i) {
            return below(i, lengths[press]) ? rows[press][i] : NONE;
        }

        /** Colours only rise in a row, so the pains add up to the way from the first to the last. */
        int pains(int press) {
            int last = lengths[press] - 1;
            return last < 0 ? 0 : colours[rows[press][last]] - colours[rows[press][0]];
        }

        private void forgetPlan() {
            for (int p = 0; p < PRESSES; p++) {
                lengths[p] = 0;
                times[p] = 0;
            }
        }

        private int pressFor(int job) {
            int press = NONE;
            for (int p = 0; p < presses; p++) {
                if (pressForces[p] < jobForces[job]) continue;
                if (press == NONE || times[p] < times[press]) press = p;
            }
            return press;
        }

        /**
         * Any order goes once all the way between the lightest and the darkest colour: to darker ones
         * it pays by how much, to lighter ones more. So only rising colours have the least pains, and
         * of those orders the one with the least numbers has jobs of one colour by their numbers.
         */
        private void putOn(int press, int job) {
            int[] row = rows[press];
            int at = Math.min(lengths[press], JOBS - 1);
            while (at > 0 && colours[row[at - 1]] > colours[job]) {
                row[at] = row[at - 1];
                at--;
            }
            row[at] = job;
            lengths[press]++;
            times[press] += jobTimes[job];
        }
    }
}
