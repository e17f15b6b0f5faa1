import java.util.ArrayList;
import java.util.Arrays;
import java.util.Comparator;
import java.util.List;

/**
 * The document once more, by the slowest and plainest means: every way, every choice of sizes, every
 * order of jobs is looked at. ModelTest compares the class with it.
 */
final class Model {
    private static final int NONE = Due.NONE, BAD = Due.BAD, STATE = Due.STATE, FULL = Due.FULL;

    private static final class Row {
        int lane;
        long[] items;
    }

    private static final class Item {
        boolean layers;
        int w;
        int[] values;
        List<Integer> gates = new ArrayList<>();
        List<Integer> vents = new ArrayList<>();
        int wall;
        int given;
    }

    private record Branch(int parent, int length, int[] size, Item[] hung) {
    }

    private record Job(int force, int colour, int time) {
    }

    private final Row[] rows = new Row[8];
    private final Item[] shelf = new Item[10];
    private final List<Integer> traced = new ArrayList<>();
    private final List<Branch> branches = new ArrayList<>();
    private final List<Integer> presses = new ArrayList<>();
    private final List<Job> jobs = new ArrayList<>();
    private List<List<Integer>> plan = null;
    private int status = 0;

    /** Any call by its name; answers of ints are as longs. */
    long call(String name, long[] a) {
        int[] i = new int[a.length];
        for (int k = 0; k < a.length; k++) i[k] = (int) a[k];
        long answer = switch (name) {
            case "sheet" -> sheet(i[0], i[1], i[2]);
            case "set" -> set(i[0], i[1], a[2]);
            case "copy" -> copy(i[0], i[1], i[2], i[3], i[4]);
            case "drop" -> drop(i[0]);
            case "part" -> part(i[0], i[1], i[2], i[3], i[4]);
            case "layers" -> layers(i[0], i[1], i[2], i[3], i[4]);
            case "clear" -> clear(i[0]);
            case "kind" -> out(i[0], 10) ? BAD : shelf[i[0]] == null ? -1000011 : kind(shelf[i[0]]);
            case "is" -> out(i[0], 10) || out(i[1], 5) ? BAD : isOf(shelf[i[0]], i[1]) ? 1 : 0;
            case "ask" -> ask(i[0], i[1]);
            case "trace" -> out(i[0], traced.size()) ? NONE : traced.get(i[0]);
            case "gate", "vent", "cell", "meeting", "trap", "force", "best" -> ofPart(name, i);
            case "branch" -> branch(i[0], i[1], i[2]);
            case "hang" -> hang(i[0], i[1]);
            case "strip" -> strip();
            case "end" -> out(i[0], branches.size()) ? BAD : end(i[0]);
            case "runners" -> i[0] == 0 ? spread() : i[0] == 1 ? mass() : i[0] == 2 ? hanging() : BAD;
            case "balance" -> balance(i[0]);
            case "size" -> out(i[0], branches.size()) ? BAD : branches.get(i[0]).size[0];
            case "beat", "warmth" -> ofLayers(name, i);
            case "press" -> press(i[0]);
            case "job" -> job(i[0], i[1], i[2]);
            case "plan" -> plan();
            case "planned" -> planned(i[0], i[1]);
            case "load" -> load(i[0], i[1]);
            case "count" -> count(i[0]);
            case "status" -> status;
            default -> throw new IllegalStateException(name);
        };
        boolean noted = "sheet set copy drop part layers kind ask gate vent cell meeting trap force best hang beat warmth"
            .matches(".*\\b" + name + "\\b.*");
        // a sheet of longs may hold any number, so what set() answers is not looked at as a refusal
        boolean refused = answer == BAD || answer == STATE || answer == FULL;
        if (name.equals("set")) refused = out(i[0], 8);
        boolean finding = answer <= -1000011 && answer >= -1000015;
        if (name.equals("set")) finding = !refused && (rows[i[0]] == null || out(i[1], rows[i[0]].items.length));
        if (noted && !refused) status = finding ? (int) (-1000010 - answer) : 0;
        return answer;
    }

    private static boolean out(long i, long n) {
        return i < 0 || i >= n;
    }

    private static boolean outOf(int i, int least, int most) {
        return i < least || i > most;
    }

    private int sheet(int s, int lane, int n) {
        if (out(s, 8) || out(lane, 3) || n > 144) return BAD;
        if (n < 0) return -1000014;
        rows[s] = new Row();
        rows[s].lane = lane;
        rows[s].items = new long[n];
        return n;
    }

    private long set(int s, int i, long v) {
        if (out(s, 8)) return BAD;
        if (rows[s] == null) return -1000011;
        if (out(i, rows[s].items.length)) return -1000012;
        int bits = rows[s].lane == 0 ? 56 : rows[s].lane == 1 ? 32 : 0;
        rows[s].items[i] = v << bits >> bits;
        return rows[s].items[i];
    }

    private int copy(int a, int i, int b, int j, int n) {
        if (out(a, 8) || out(b, 8)) return BAD;
        if (rows[a] == null || rows[b] == null) return -1000011;
        if (rows[a].lane != rows[b].lane) return -1000015;
        if (i < 0 || j < 0 || n < 0) return -1000012;
        if ((long) i + n > rows[a].items.length || (long) j + n > rows[b].items.length) return -1000012;
        long[] was = rows[a].items.clone();
        for (int k = 0; k < n; k++) rows[b].items[j + k] = was[i + k];
        return n;
    }

    private int drop(int s) {
        if (out(s, 8)) return BAD;
        if (rows[s] == null) return -1000011;
        int n = rows[s].items.length;
        rows[s] = null;
        return n;
    }

    private boolean hangs(int place) {
        for (Branch b : branches) if (b.hung[0] != null && b.hung[0] == shelf[place]) return true;
        return false;
    }

    private int part(int place, int s, int i, int w, int h) {
        if (out(place, 10) || out(s, 8) || outOf(w, 1, 12) || outOf(h, 1, 12)) return BAD;
        if (hangs(place)) return STATE;
        if (rows[s] == null) return -1000011;
        if (i < 0 || (long) i + w * h > rows[s].items.length) return -1000012;
        Item made = new Item();
        made.w = w;
        made.values = new int[w * h];
        int sum = 0;
        for (int k = 0; k < w * h; k++) {
            long v = rows[s].items[i + k];
            if (v < 0 || v > 9) return BAD;
            made.values[k] = (int) v;
            sum += (int) v;
        }
        if (sum == 0) return BAD;
        shelf[place] = made;
        return kind(made);
    }

    private int layers(int place, int s, int i, int n, int wall) {
        if (out(place, 10) || out(s, 8) || outOf(n, 2, 20) || outOf(wall, 0, 10000)) return BAD;
        if (hangs(place)) return STATE;
        if (rows[s] == null) return -1000011;
        if (i < 0 || (long) i + n > rows[s].items.length) return -1000012;
        Item made = new Item();
        made.layers = true;
        made.wall = wall;
        made.values = new int[n];
        for (int k = 0; k < n; k++) {
            long v = rows[s].items[i + k];
            if (v < 0 || v > 10000) return BAD;
            made.values[k] = (int) v;
        }
        shelf[place] = made;
        return 4;
    }

    private int clear(int place) {
        if (out(place, 10)) return BAD;
        if (hangs(place)) return STATE;
        int was = shelf[place] == null ? 0 : 1;
        shelf[place] = null;
        return was;
    }

    private static int kind(Item t) {
        if (t.layers) return 4;
        long unlike = Arrays.stream(t.values).filter(v -> v > 0).distinct().count();
        long gaps = Arrays.stream(t.values).filter(v -> v == 0).count();
        return unlike > 1 ? 1 : gaps > 0 ? 2 : 3;
    }

    private static boolean isOf(Item t, int kind) {
        if (t == null) return false;
        int told = kind(t);
        return kind == 0 || kind == told || kind < told && told < 4;
    }

    private int ask(int place, int what) {
        if (out(place, 10) || out(what, 2)) return BAD;
        traced.clear();
        if (shelf[place] == null) return -1000011;
        Item t = shelf[place];
        int told = kind(t);
        int sum = Arrays.stream(t.values).sum();
        int[][] weightBodies = {{}, {11, 10}, {12, 11, 10}, {12, 11, 10}, {13}};
        int weight = told == 4 ? t.values.length : told == 1 ? sum + 1 : sum + 1 + t.gates.size();
        if (what == 1 && told == 4) traced.add(22);
        if (what == 1 && told == 3) traced.add(21);
        if (what == 1 && told < 4) traced.add(20);
        if (what == 0 || told < 4) for (int b : weightBodies[told]) traced.add(b);
        if (what == 0) return weight;
        if (told == 4) return Arrays.stream(t.values).max().getAsInt();
        return told == 3 ? 2 * (weight + 5) : weight + 5;
    }

    // ---- parts

    private static List<Integer> around(Item t, int c) {
        List<Integer> found = new ArrayList<>();
        for (int o = 0; o < t.values.length; o++) {
            int far = Math.abs(o / t.w - c / t.w) + Math.abs(o % t.w - c % t.w);
            if (far == 1 && t.values[o] > 0) found.add(o);
        }
        return found;
    }

    private static int drag(int t) {
        return (int) Math.floor(5000.0 / t / t / t + 1e-9);
    }

    /** The strains from one gate alone: the nearest open cell is settled, again and again. */
    private static int[] strainsFrom(Item t, int gate) {
        int n = t.values.length;
        int[] best = new int[n];
        Arrays.fill(best, -1);
        best[gate] = drag(t.values[gate]);
        boolean[] settled = new boolean[n];
        for (;;) {
            int next = -1;
            for (int c = 0; c < n; c++) {
                if (!settled[c] && best[c] >= 0 && (next < 0 || best[c] < best[next])) next = c;
            }
            if (next < 0) return best;
            settled[next] = true;
            for (int o : around(t, next)) {
                int now = best[next] + drag(t.values[o]);
                if (best[o] < 0 || now < best[o]) best[o] = now;
            }
        }
    }

    /** Strains and fronts of all cells, NONE where there is none. */
    private static int[][] filled(Item t) {
        int n = t.values.length;
        int[][] both = new int[2][n];
        Arrays.fill(both[0], NONE);
        Arrays.fill(both[1], NONE);
        for (int g = 0; g < t.gates.size(); g++) {
            int[] from = strainsFrom(t, t.gates.get(g));
            for (int c = 0; c < n; c++) {
                if (from[c] < 0 || both[0][c] != NONE && both[0][c] <= from[c]) continue;
                both[0][c] = from[c];
                both[1][c] = g;
            }
        }
        return both;
    }

    private static List<Integer> order(int[] strains) {
        List<Integer> order = new ArrayList<>();
        for (int c = 0; c < strains.length; c++) if (strains[c] != NONE) order.add(c);
        order.sort(Comparator.comparingInt(c -> strains[c]));
        return order;
    }

    private static int ends(Item t) {
        return Math.max(0, Arrays.stream(filled(t)[0]).max().getAsInt());
    }

    private long ofPart(String name, int[] i) {
        if (out(i[0], 10)) return BAD;
        if (name.equals("cell") && out(i[2], 5)) return BAD;
        if (name.equals("meeting") && out(i[2], 2)) return BAD;
        Item t = shelf[i[0]];
        if (t == null) return -1000011;
        if (t.layers) return -1000013;
        return switch (name) {
            case "gate" -> gate(t, i[1]);
            case "vent" -> vent(t, i[1]);
            case "cell" -> out(i[1], t.values.length) ? BAD : cell(t, i[1], i[2]);
            case "meeting" -> meeting(t, i[1], i[2]);
            case "trap" -> trap(t, i[1]);
            case "force" -> force(t, i[1]);
            default -> best(t);
        };
    }

    private static int gate(Item t, int c) {
        if (out(c, t.values.length) || t.values[c] == 0 || t.gates.contains(c)) return BAD;
        if (t.gates.size() == 4) return FULL;
        t.gates.add(c);
        return t.gates.size() - 1;
    }

    private static int vent(Item t, int c) {
        if (out(c, t.values.length) || t.values[c] == 0) return BAD;
        if (t.vents.remove((Integer) c)) return 0;
        t.vents.add(c);
        return 1;
    }

    private static int cell(Item t, int c, int what) {
        if (what == 0) return t.values[c];
        int[][] both = filled(t);
        if (what < 3) return both[what - 1][c];
        List<Integer> order = order(both[0]);
        int rank = order.indexOf(c);
        if (rank < 0) return NONE;
        return what == 3 ? rank : order.subList(0, rank + 1).stream().mapToInt(o -> t.values[o]).sum();
    }

    private static int meeting(Item t, int i, int which) {
        int[] fronts = filled(t)[1];
        List<int[]> met = new ArrayList<>();
        for (int c = 0; c < t.values.length; c++) {
            if (t.values[c] == 0) continue;
            for (int o : around(t, c)) if (o > c && fronts[o] != fronts[c]) met.add(new int[] {c, o});
        }
        return out(i, met.size()) ? NONE : met.get(i)[which];
    }

    private static int trap(Item t, int i) {
        int[] strains = filled(t)[0];
        List<Integer> order = order(strains);
        List<Integer> traps = new ArrayList<>();
        for (int c = 0; c < t.values.length; c++) {
            if (strains[c] == NONE || t.vents.contains(c)) continue;
            int rank = order.indexOf(c);
            if (around(t, c).stream().allMatch(o -> order.indexOf(o) < rank)) traps.add(c);
        }
        return out(i, traps.size()) ? NONE : traps.get(i);
    }

    private static long force(Item t, int i) {
        int[] strains = filled(t)[0];
        List<Integer> order = order(strains);
        if (out(i, order.size())) return NONE;
        return order.subList(0, i + 1).stream().mapToLong(c -> strains[order.get(i)] - strains[c]).sum();
    }

    private static int best(Item t) {
        int best = NONE;
        int least = Integer.MAX_VALUE;
        for (int c = 0; c < t.values.length; c++) {
            if (t.values[c] == 0) continue;
            int[] from = strainsFrom(t, c);
            int ends = 0;
            for (int o = 0; o < from.length; o++) {
                if (t.values[o] > 0) ends = from[o] < 0 ? Integer.MAX_VALUE : Math.max(ends, from[o]);
            }
            if (ends < least) {
                least = ends;
                best = c;
            }
        }
        return best;
    }

    // ---- runners

    private int branch(int parent, int length, int size) {
        if (parent != NONE && out(parent, branches.size()) || outOf(length, 1, 50) || outOf(size, 1, 9)) return BAD;
        if (branches.size() == 8) return FULL;
        branches.add(new Branch(parent, length, new int[] {size}, new Item[1]));
        return branches.size() - 1;
    }

    private int hang(int b, int place) {
        if (out(b, branches.size()) || out(place, 10)) return BAD;
        if (branches.get(b).hung[0] != null || hangs(place)) return STATE;
        if (shelf[place] == null) return -1000011;
        if (shelf[place].layers) return -1000013;
        branches.get(b).hung[0] = shelf[place];
        return hanging();
    }

    private int strip() {
        int were = branches.size();
        branches.clear();
        return were;
    }

    private int hanging() {
        return (int) branches.stream().filter(b -> b.hung[0] != null).count();
    }

    private int way(int b) {
        if (b == NONE) return 0;
        Branch at = branches.get(b);
        int s = at.size[0];
        return at.length * 5000 / (s * s * s) + way(at.parent);
    }

    private int end(int b) {
        Item hung = branches.get(b).hung[0];
        return hung == null ? NONE : way(b) + ends(hung);
    }

    private int spread() {
        int[] ends = new int[branches.size()];
        for (int b = 0; b < ends.length; b++) ends[b] = end(b);
        int[] there = Arrays.stream(ends).filter(e -> e != NONE).sorted().toArray();
        return there.length < 2 ? 0 : there[there.length - 1] - there[0];
    }

    private int mass() {
        return branches.stream().mapToInt(b -> b.length * b.size[0] * b.size[0]).sum();
    }

    private int balance(int set) {
        if (set == 0 || (set & 0x3FE) != set || Integer.bitCount(set) > 3) return BAD;
        int[] of = new int[Integer.bitCount(set)];
        for (int s = 1, k = 0; s <= 9; s++) if ((set >> s & 1) == 1) of[k++] = s;
        int n = branches.size();
        int all = 1;
        for (int b = 0; b < n; b++) all *= of.length;
        int[] ends = new int[n];
        for (int b = 0; b < n; b++) ends[b] = branches.get(b).hung[0] == null ? NONE : ends(branches.get(b).hung[0]);
        long least = Long.MAX_VALUE;
        int chosen = 0;
        // the sizes of 0 are the highest digits, so of several the least number is the one
        for (int code = 0; code < all; code++) {
            put(code, of);
            int low = Integer.MAX_VALUE;
            int high = 0;
            for (int b = 0; b < n; b++) {
                if (ends[b] == NONE) continue;
                low = Math.min(low, way(b) + ends[b]);
                high = Math.max(high, way(b) + ends[b]);
            }
            long worth = (high == 0 ? 0L : high - low) * 1000000L + mass();
            if (worth < least) {
                least = worth;
                chosen = code;
            }
        }
        put(chosen, of);
        return spread();
    }

    private void put(int code, int[] of) {
        for (int b = branches.size() - 1; b >= 0; b--) {
            branches.get(b).size[0] = of[code % of.length];
            code /= of.length;
        }
    }

    // ---- layers

    private int ofLayers(String name, int[] i) {
        if (out(i[0], 10)) return BAD;
        if (name.equals("beat") && (outOf(i[1], 1, 100) || outOf(i[2], 1, 5) || outOf(i[3], 0, 10000))) return BAD;
        Item t = shelf[i[0]];
        if (t == null) return -1000011;
        if (!t.layers) return -1000013;
        if (name.equals("beat")) return beat(t, i[1], i[2], i[3]);
        if (i[1] == NONE) return t.given;
        return out(i[1], t.values.length) ? BAD : t.values[i[1]];
    }

    private static int beat(Item t, int n, int number, int e) {
        for (int done = 0; done < n; done++) {
            if (Arrays.stream(t.values).allMatch(v -> v <= e)) return done;
            int[] row = new int[t.values.length + 2];
            row[0] = t.wall;
            row[row.length - 1] = t.wall;
            System.arraycopy(t.values, 0, row, 1, t.values.length);
            int[] change = new int[row.length];
            for (int k = 0; k + 1 < row.length; k++) {
                int apart = Math.abs(row[k] - row[k + 1]) * number / 16;
                int goes = row[k] > row[k + 1] ? apart : -apart;
                change[k] -= goes;
                change[k + 1] += goes;
            }
            for (int k = 0; k < t.values.length; k++) t.values[k] += change[k + 1];
            t.given += change[0] + change[row.length - 1];
        }
        return n;
    }

    // ---- presses

    private int press(int force) {
        if (outOf(force, 0, 1000000)) return BAD;
        if (presses.size() == 6) return FULL;
        plan = null;
        presses.add(force);
        return presses.size() - 1;
    }

    private int job(int force, int colour, int time) {
        if (outOf(force, 0, 1000000) || out(colour, 10) || outOf(time, 1, 1000)) return BAD;
        if (jobs.size() == 12) return FULL;
        plan = null;
        jobs.add(new Job(force, colour, time));
        return jobs.size() - 1;
    }

    private int plan() {
        plan = new ArrayList<>();
        for (int p = 0; p < presses.size(); p++) plan.add(new ArrayList<>());
        int left = 0;
        for (int j = 0; j < jobs.size(); j++) {
            int to = -1;
            for (int p = 0; p < presses.size(); p++) {
                if (presses.get(p) >= jobs.get(j).force && (to < 0 || times(p) < times(to))) to = p;
            }
            if (to < 0) left++;
            else plan.get(to).add(j);
        }
        for (int p = 0; p < presses.size(); p++) plan.set(p, leastPains(plan.get(p)));
        return left;
    }

    private int times(int p) {
        return plan.get(p).stream().mapToInt(j -> jobs.get(j).time).sum();
    }

    private int pain(int a, int b) {
        int by = jobs.get(b).colour - jobs.get(a).colour;
        return by == 0 ? 0 : by > 0 ? by : -5 * by + 3;
    }

    /** Least pains of what is still to come, for every set of jobs and every job they come behind. */
    private List<Integer> leastPains(List<Integer> row) {
        int n = row.size();
        if (n < 2) return row;
        int[][] least = new int[1 << n][n];
        for (int rest = 1; rest < 1 << n; rest++) {
            for (int last = 0; last < n; last++) {
                int best = Integer.MAX_VALUE;
                for (int next = 0; next < n; next++) {
                    if ((rest >> next & 1) == 0) continue;
                    int pains = pain(row.get(last), row.get(next)) + least[rest & ~(1 << next)][next];
                    best = Math.min(best, pains);
                }
                least[rest][last] = best;
            }
        }
        int rest = (1 << n) - 1;
        int at = 0;
        for (int first = 1; first < n; first++) {
            if (least[rest & ~(1 << first)][first] < least[rest & ~(1 << at)][at]) at = first;
        }
        List<Integer> order = new ArrayList<>(List.of(row.get(at)));
        rest &= ~(1 << at);
        while (rest != 0) {
            for (int next = 0; next < n; next++) {
                if ((rest >> next & 1) == 0) continue;
                int after = rest & ~(1 << next);
                if (pain(row.get(at), row.get(next)) + least[after][next] > least[rest][at]) continue;
                order.add(row.get(next));
                at = next;
                rest = after;
                break;
            }
        }
        return order;
    }

    private int planned(int p, int i) {
        if (out(p, presses.size())) return BAD;
        return plan == null || out(i, plan.get(p).size()) ? NONE : plan.get(p).get(i);
    }

    private int load(int p, int what) {
        if (out(p, presses.size()) || out(what, 3)) return BAD;
        if (plan == null) return 0;
        if (what == 0) return plan.get(p).size();
        if (what == 1) return times(p);
        int sum = 0;
        for (int k = 1; k < plan.get(p).size(); k++) sum += pain(plan.get(p).get(k - 1), plan.get(p).get(k));
        return sum;
    }

    private int count(int what) {
        int many = 0;
        if (what == 0) for (Row r : rows) many += r == null ? 0 : 1;
        if (what >= 1 && what <= 3) for (Item t : shelf) many += isOf(t, what - 1) ? 1 : 0;
        if (what == 4) many = branches.size();
        if (what == 5) many = presses.size();
        if (what == 6) many = jobs.size();
        return out(what, 7) ? BAD : many;
    }
}
