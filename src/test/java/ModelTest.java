import java.lang.reflect.InvocationTargetException;
import java.lang.reflect.Method;
import java.util.ArrayList;
import java.util.Arrays;
import java.util.HashMap;
import java.util.HashSet;
import java.util.List;
import java.util.Map;
import java.util.Random;
import java.util.Set;

/** Long runs of calls, the same at every time, in which the program answers as the Model does. */
final class ModelTest {
    private static final int RUNS = 3000;
    private static final int CALLS = 480;

    /** From and to of each int that a method takes: what it may be, and a little beyond. */
    private static final Map<String, int[][]> RANGES = new HashMap<>();
    private static final Map<String, Method> OF_PROGRAM = new HashMap<>();
    private static final Map<String, Method> OF_MODEL = new HashMap<>();
    /** Each as often as its weight, to draw from. */
    private static final List<String> NAMES = new ArrayList<>();

    static {
        put("cloth", 3, new int[][] {{60, 160}, {0, 3000}, {0, 8}, {0, 20}, {1, 9}});
        put("wash", 1, new int[][] {{0, 3}});
        put("person", 5, new int[][] {{50, 200}, {50, 200}, {50, 200}, {50, 200}});
        put("measure", 5, new int[][] {{0, 5}, {0, 3}, {50, 200}});
        put("style", 2, new int[][] {});
        put("piece", 8, new int[][] {{0, 2}, {0, 39}, {0, 39}, {0, 40}, {1, 4}});
        put("hand", 2, new int[][] {{1, 16}});
        put("order", 5, new int[][] {{0, 5}, {0, 2}, {0, 400}});
        put("cut", 5, new int[][] {{0, 7}, {-1, 7}, {0, 3}});
        put("sew", 8, new int[][] {{0, 7}, {0, 2}});
        put("fit", 8, new int[][] {{0, 7}});
        put("give", 6, new int[][] {{0, 7}});
        put("pass", 3, new int[][] {{1, 30}});
        put("shut", 2, new int[][] {});
        put("bell", 1, new int[][] {});
        put("ofCloth", 2, new int[][] {{0, 3}, {0, 5}});
        put("size", 3, new int[][] {{0, 2}, {0, 4}, {0, 5}});
        put("ofOrder", 4, new int[][] {{0, 7}, {0, 7}});
        put("tight", 3, new int[][] {{0, 7}});
        put("ready", 2, new int[][] {{0, 7}});
        put("free", 2, new int[][] {{0, 2}});
        put("clock", 1, new int[][] {});
        put("many", 3, new int[][] {{0, 13}});
        put("lay", 12, new int[][] {{0, 7}, {-1, 7}, {0, 3}, {0, 3}});
        put("best", 4, new int[][] {{0, 7}});
        put("mate", 5, new int[][] {{0, 7}, {0, 3}});
        put("soonest", 4, new int[][] {{0, 7}});
        put("digest", 2, new int[][] {});
        for (Method method : Model.class.getDeclaredMethods()) {
            OF_MODEL.put(method.getName(), method);
        }
        for (Method method : TailorBench.class.getMethods()) {
            OF_PROGRAM.put(method.getName(), method);
        }
    }

    private ModelTest() {
    }

    private static void put(String name, int weight, int[][] ranges) {
        RANGES.put(name, ranges);
        for (int i = 0; i < weight; i++) {
            NAMES.add(name);
        }
    }

    static void answersAsTheModel(Check c) throws IllegalAccessException {
        Set<String> seen = new HashSet<>();
        for (int run = 0; run < RUNS && c.faults().isEmpty(); run++) {
            oneRun(c, new Random(run), run, seen);
        }
        if (c.faults().isEmpty()) {
            c.that("the runs come to everything: " + seen, seen.containsAll(Set.of(
                    "cut -2.0", "cut -3.0", "cut done", "fit -2", "fit 0", "fit 1", "fit 2",
                    "fit 3", "give done", "mate -1", "mate done", "best -1", "best done")));
        }
    }

    private static void oneRun(Check c, Random random, int run, Set<String> seen)
            throws IllegalAccessException {
        TailorBench x = new TailorBench();
        Model model = new Model();
        StringBuilder told = new StringBuilder();
        // How often an argument may be wrong differs from run to run.
        int wrong = 1 + random.nextInt(60);
        for (int i = 0; i < CALLS; i++) {
            String name = nextName(random, i);
            Object[] args = arguments(name, random, wrong);
            Object got = answer(OF_PROGRAM.get(name), x, args);
            Object due = answer(OF_MODEL.get(name), model, args);
            told.append(name).append(Arrays.toString(args)).append(" = ").append(got).append("; ");
            seen.add(name + " " + (got.toString().startsWith("-") || name.equals("fit")
                    ? got : got instanceof Class ? "refused" : "done"));
            if (!got.equals(due)) {
                c.that("run " + run + ", due is " + due + ": " + told, false);
                return;
            }
        }
        c.same("run " + run + ": digest()", x.digest(), model.digest());
    }

    /** A shop is set up first in most of the calls, so that there is something to ask about. */
    private static String nextName(Random random, int call) {
        if (call < 40) {
            String[] first = {"cloth", "person", "style", "piece", "piece", "hand", "order"};
            return first[random.nextInt(first.length)];
        }
        return NAMES.get(random.nextInt(NAMES.size()));
    }

    private static Object[] arguments(String name, Random random, int wrong) {
        Class<?>[] types = OF_PROGRAM.get(name).getParameterTypes();
        Object[] args = new Object[types.length];
        int ints = 0;
        for (int i = 0; i < types.length; i++) {
            if (types[i] == boolean.class) {
                args[i] = name.equals("shut") ? random.nextInt(4) == 0 : random.nextBoolean();
            } else {
                int[] range = RANGES.get(name)[ints++];
                args[i] = number(random, range[0], range[1], wrong);
            }
        }
        // Without small steps hardly an ORDER would ever fit.
        if (name.equals("measure") && random.nextInt(2) == 0) {
            args[2] = 96 + random.nextInt(9);
        }
        return args;
    }

    private static int number(Random random, int from, int to, int wrong) {
        if (random.nextInt(wrong) == 0 && random.nextInt(4) == 0) {
            int[] odd = {from - 1, to + 1, -1, -2, Integer.MIN_VALUE, Integer.MAX_VALUE, 0};
            return odd[random.nextInt(odd.length)];
        }
        if (random.nextInt(12) == 0) {
            return random.nextBoolean() ? from : to;
        }
        return from + random.nextInt(to - from + 1);
    }

    private static Object answer(Method method, Object of, Object[] args)
            throws IllegalAccessException {
        try {
            return method.invoke(of, args);
        } catch (InvocationTargetException e) {
            return e.getCause().getClass();
        }
    }
}
