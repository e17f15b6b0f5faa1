import java.lang.reflect.InvocationTargetException;
import java.lang.reflect.Method;
import java.lang.reflect.Modifier;
import java.util.ArrayList;
import java.util.Arrays;
import java.util.List;
import java.util.Map;
import java.util.Random;
import java.util.TreeMap;

/**
 * All promises: long runs of calls, drawn with fixed seeds, whose answers are those of Model; and
 * runs with any numbers at all, in which no call may throw.
 */
public final class ModelTest {
    private static final int[] EDGES = {Integer.MIN_VALUE, Integer.MAX_VALUE, -1000000, -1000001, -1, 0, 1, 2, 3, 4,
        7, 8, 9, 10, 11, 12, 13, 20, 21, 100, 101, 143, 144, 145, 1000, 1001, 10000, 10001, 1000000, 1000001};

    private static final Map<String, Method> CALLS = new TreeMap<>();
    private static int wrong = 0;

    /** One object and the model of it, with the last calls for a report. */
    private static final class Pair {
        final HollowPress real = new HollowPress();
        final Model model = new Model();
        final List<String> told = new ArrayList<>();

        long call(String name, long... a) throws ReflectiveOperationException {
            long got = answer(real, name, a);
            long due = model.call(name, a);
            told.add(name + Arrays.toString(a) + " " + got);
            if (got != due) {
                wrong++;
                int from = Math.max(0, told.size() - 12);
                System.out.println("due is " + due + " at the last of " + told.subList(from, told.size()));
            }
            return got;
        }
    }

    public static void main(String[] args) throws ReflectiveOperationException {
        for (Method m : HollowPress.class.getDeclaredMethods()) {
            if (Modifier.isPublic(m.getModifiers())) CALLS.put(m.getName(), m);
        }
        for (int seed = 0; seed < 150 && wrong == 0; seed++) anyCalls(new Random(seed));
        for (int seed = 0; seed < 250 && wrong == 0; seed++) parts(new Random(seed));
        for (int seed = 0; seed < 80 && wrong == 0; seed++) runners(new Random(seed));
        for (int seed = 0; seed < 100 && wrong == 0; seed++) layers(new Random(seed));
        for (int seed = 0; seed < 150 && wrong == 0; seed++) presses(new Random(seed));
        for (int seed = 0; seed < 60 && wrong == 0; seed++) edges(new Random(seed));
        System.out.println(wrong == 0 ? "all answers are those of the model" : wrong + " answers are not as due");
        if (wrong != 0) System.exit(1);
    }

    private static long answer(HollowPress x, String name, long... a) throws ReflectiveOperationException {
        Method m = CALLS.get(name);
        Object[] given = new Object[a.length];
        for (int k = 0; k < a.length; k++) {
            if (m.getParameterTypes()[k] == int.class) given[k] = (int) a[k];
            else given[k] = a[k];
        }
        try {
            return ((Number) m.invoke(x, given)).longValue();
        } catch (InvocationTargetException e) {
            wrong++;
            System.out.println(name + Arrays.toString(a) + " threw " + e.getCause());
            return Long.MIN_VALUE;
        }
    }

    /** Small numbers, so that most calls find what they ask for, and some edges. */
    private static void anyCalls(Random r) throws ReflectiveOperationException {
        Pair x = new Pair();
        String[] names = CALLS.keySet().toArray(new String[0]);
        for (int s = 0; s < 3; s++) {
            x.call("sheet", s, r.nextInt(3), 16);
            for (int i = 0; i < 16; i++) x.call("set", s, i, r.nextInt(8));
        }
        for (int k = 0; k < 460; k++) {
            String name = names[r.nextInt(names.length)];
            if (r.nextInt(4) == 0) name = new String[] {"part", "gate", "hang", "ask", "part"}[r.nextInt(5)];
            if (name.equals("strip") && r.nextInt(4) > 0) continue;
            long[] a = new long[CALLS.get(name).getParameterCount()];
            for (int i = 0; i < a.length; i++) a[i] = number(r, name);
            if (name.equals("branch") && r.nextInt(3) == 0) a[0] = -1000000;
            if (name.equals("set") && r.nextInt(3) == 0) a[2] = r.nextLong();
            if (name.equals("balance")) a[0] = 2 << r.nextInt(9) | 2 << r.nextInt(9);
            x.call(name, a);
            if (r.nextInt(3) == 0) x.call("status");
        }
    }

    private static long number(Random r, String name) {
        if (r.nextInt(40) == 0) return EDGES[r.nextInt(EDGES.length)];
        if (name.equals("part") || name.equals("hang") || name.equals("gate")) return r.nextInt(4);
        return r.nextInt(r.nextInt(3) == 0 ? 12 : 4);
    }

    private static void fill(Pair x, int... items) throws ReflectiveOperationException {
        x.call("sheet", 0, 1, items.length);
        for (int i = 0; i < items.length; i++) x.call("set", 0, i, items[i]);
    }

    private static int[] grid(Random r, int n) {
        int[] items = new int[n];
        int gaps = r.nextInt(5);
        int least = 1 + r.nextInt(9);
        int kinds = 1 + r.nextInt(10 - least);
        for (int i = 0; i < n; i++) items[i] = r.nextInt(10) < gaps ? 0 : least + r.nextInt(kinds);
        return items;
    }

    private static void parts(Random r) throws ReflectiveOperationException {
        Pair x = new Pair();
        int most = r.nextInt(8) == 0 ? 12 : 6;
        int w = 1 + r.nextInt(most);
        int h = 1 + r.nextInt(most);
        fill(x, grid(r, w * h));
        if (x.call("part", 0, 0, 0, w, h) < 0) return;
        x.call("best", 0);
        for (int g = 0; g < 5; g++) {
            x.call("gate", 0, r.nextInt(w * h));
            x.call("vent", 0, r.nextInt(w * h));
            x.call("ask", 0, g % 2);
            if (g % 2 == 0) continue;
            for (int c = 0; c < w * h; c++) x.call("cell", 0, c, r.nextInt(5));
            for (int i = 0; i < 12; i++) x.call("meeting", 0, i, r.nextInt(2));
            for (int i = 0; i < 12; i++) x.call("trap", 0, i);
            for (int i = 0; i < 8; i++) x.call("force", 0, r.nextInt(w * h + 1));
            x.call("best", 0);
        }
        for (int i = 0; i < 20; i++) x.call("meeting", 0, i, i % 2);
    }

    private static void runners(Random r) throws ReflectiveOperationException {
        Pair x = new Pair();
        for (int p = 0; p < 10; p++) {
            fill(x, grid(r, 6));
            x.call("part", p, 0, 0, 3, 2);
            x.call("gate", p, r.nextInt(6));
        }
        for (int round = 0; round < 3; round++) {
            int n = r.nextInt(9);
            int lengths = r.nextBoolean() ? 50 : 4;
            for (int b = 0; b < n; b++) {
                int parent = b == 0 || r.nextInt(3) == 0 ? -1000000 : r.nextInt(b);
                x.call("branch", parent, 1 + r.nextInt(lengths), 1 + r.nextInt(9));
                if (r.nextInt(3) > 0) x.call("hang", b, r.nextInt(10));
            }
            for (int turn = 0; turn < 2; turn++) {
                for (int b = 0; b < n; b++) {
                    x.call("end", b);
                    x.call("size", b);
                }
                for (int what = 0; what < 3; what++) x.call("runners", what);
                x.call("balance", 2 << r.nextInt(9) | 2 << r.nextInt(9) | 2 << r.nextInt(9));
            }
            for (int b = 0; b < n; b++) x.call("size", b);
            x.call("gate", r.nextInt(10), r.nextInt(6));
            x.call("runners", 0);
            x.call("strip");
        }
    }

    private static void layers(Random r) throws ReflectiveOperationException {
        Pair x = new Pair();
        int n = 2 + r.nextInt(19);
        int[] items = new int[n];
        int most = r.nextBoolean() ? 10001 : 60;
        for (int i = 0; i < n; i++) items[i] = r.nextInt(most);
        fill(x, items);
        x.call("layers", 0, 0, 0, n, r.nextInt(most));
        for (int turn = 0; turn < 6; turn++) {
            x.call("beat", 0, 1 + r.nextInt(turn == 5 ? 100 : 5), 1 + r.nextInt(5), r.nextInt(most));
            for (int i = 0; i < n; i++) x.call("warmth", 0, i);
            x.call("warmth", 0, -1000000);
            x.call("ask", 0, 1);
        }
    }

    private static void presses(Random r) throws ReflectiveOperationException {
        Pair x = new Pair();
        int p = r.nextInt(r.nextBoolean() ? 3 : 7);
        int n = r.nextInt(13);
        int colours = 1 + r.nextInt(10);
        int times = r.nextBoolean() ? 3 : 1000;
        for (int k = 0; k < p; k++) x.call("press", r.nextInt(20));
        for (int k = 0; k < n; k++) x.call("job", r.nextInt(15), r.nextInt(colours), 1 + r.nextInt(times));
        for (int turn = 0; turn < 2; turn++) {
            x.call("plan");
            for (int k = 0; k < p; k++) {
                for (int i = 0; i <= n; i++) x.call("planned", k, i);
                for (int what = 0; what < 3; what++) x.call("load", k, what);
            }
            if (r.nextBoolean()) x.call("press", r.nextInt(20));
            else x.call("job", r.nextInt(15), r.nextInt(10), 1 + r.nextInt(9));
        }
    }

    /** Past 512 calls, too: answers are free there, but no call may throw. */
    private static void edges(Random r) throws ReflectiveOperationException {
        HollowPress x = new HollowPress();
        String[] names = CALLS.keySet().toArray(new String[0]);
        for (int k = 0; k < 3000; k++) {
            String name = names[r.nextInt(names.length)];
            long[] a = new long[CALLS.get(name).getParameterCount()];
            for (int i = 0; i < a.length; i++) a[i] = r.nextInt(3) == 0 ? EDGES[r.nextInt(EDGES.length)] : r.nextInt(5);
            answer(x, name, a);
        }
    }
}
