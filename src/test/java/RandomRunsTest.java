import java.lang.reflect.InvocationTargetException;
import java.lang.reflect.Method;
import java.util.Arrays;
import java.util.HashMap;
import java.util.Map;
import java.util.Random;

/** Runs of chance calls, each answered by the class and by the model; then calls with numbers of every size. */
public final class RandomRunsTest {
    private static final int CALLS = 512;
    private static final String[] BUILDING = {"arbor", "arbor", "arbor", "mesh", "mesh", "mesh", "mesh", "epicycle", "epicycle",
        "escape", "balance", "balance", "barrel", "torque", "torque", "torque", "torque", "dial", "calendar", "calendar",
        "strike", "chronograph"};
    private static final String[] GOING = {"run", "run", "run", "run", "run", "shock", "shock", "wind", "press", "press",
        "press", "correct", "correct", "correct", "correct", "correct", "trip", "trip", "wind", "back"};
    private static final String[] QUESTIONS = {"speed", "state", "tick", "shows", "struck", "hand", "count"};
    private static final String[] HOUSE = {"teeth", "train", "error", "chain", "size", "size", "limit", "ways", "rate",
        "rate", "verdict", "change", "change", "change", "merge", "merge", "conflict", "settle", "setting", "version", "never"};

    /** For each call, the least and the greatest of each argument that is drawn most often. */
    private static final Map<String, int[]> RANGES = new HashMap<>();

    static {
        RANGES.put("mesh", new int[] {0, 6, 1, 60, 0, 6, 1, 60, 0, 1});
        RANGES.put("epicycle", new int[] {0, 6, 1, 40, 0, 6, 1, 40, 0, 6});
        RANGES.put("escape", new int[] {0, 3, 1, 12});
        RANGES.put("balance", new int[] {1500, 4096, 0, 12, 15000, 65536, 30000, 400000});
        RANGES.put("barrel", new int[] {-1, 5});
        RANGES.put("torque", new int[] {0, 8, 2000, 30000});
        RANGES.put("dial", new int[] {0, 6, 2, 12});
        RANGES.put("calendar", new int[] {0, 6, 0, 3, 26, 31, 1, 12, 1896, 2030});
        RANGES.put("strike", new int[] {0, 6, 0, 1});
        RANGES.put("chronograph", new int[] {0, 2});
        RANGES.put("run", new int[] {0, 300});
        RANGES.put("shock", new int[] {-60000, 60000});
        RANGES.put("wind", new int[] {0, 700});
        RANGES.put("press", new int[] {0, 3, 0, 2});
        RANGES.put("correct", new int[] {0, 7, 0, 3, 0, 12});
        RANGES.put("trip", new int[] {0, 7});
        RANGES.put("back", new int[] {0, 150});
        RANGES.put("speed", new int[] {0, 7, 0, 2});
        RANGES.put("state", new int[] {0, 9});
        RANGES.put("tick", new int[] {0, 300, 0, 1});
        RANGES.put("shows", new int[] {0, 7, 0, 9});
        RANGES.put("struck", new int[] {0, 40, 0, 2});
        RANGES.put("hand", new int[] {0, 3, 0, 3});
        RANGES.put("count", new int[] {0, 6});
        RANGES.put("teeth", new int[] {0, 1, 4, 20, 10, 24});
        RANGES.put("search", new int[] {1, 400, 1, 60, 1, 2});
        RANGES.put("train", new int[] {0, 2, 0, 1});
        RANGES.put("error", new int[] {0, 1});
        RANGES.put("size", new int[] {-1, 1, 0, 300, -20, 20, -10, 60});
        RANGES.put("limit", new int[] {0, 1});
        RANGES.put("ways", new int[] {-800, 300, -300, 800});
        RANGES.put("rate", new int[] {1, 15, -60, 60});
        RANGES.put("verdict", new int[] {0, 7});
        RANGES.put("change", new int[] {0, 3, 0, 4, -2, 2});
        RANGES.put("merge", new int[] {0, 3});
        RANGES.put("conflict", new int[] {0, 3, 0, 4});
        RANGES.put("settle", new int[] {0, 3, 0, 4, 0, 1});
        RANGES.put("setting", new int[] {-4, 20, 0, 4});
        RANGES.put("version", new int[] {0, 4});
        RANGES.put("never", new int[] {0, 4});
    }

    private static final int[] EDGES = {Integer.MIN_VALUE, Integer.MIN_VALUE + 1, -1000001, -1000000, -10001, -10000, -401, -5,
        -4, -3, -2, -1, 0, 1, 2, 3, 4, 5, 6, 7, 8, 9, 10, 12, 13, 15, 16, 23, 24, 31, 32, 40, 60, 61, 99, 100, 199, 200, 201, 999,
        1000, 1001, 2000, 3000, 4096, 4097, 9999, 10000, 20000, 20001, 65536, 65537, 100000, 100001, 1000000, 1000001, 10000000,
        10000001, Integer.MAX_VALUE - 1, Integer.MAX_VALUE};

    private static Map<String, Method> methodsOf(Class<?> type) {
        Map<String, Method> all = new HashMap<>();
        for (Method m : type.getDeclaredMethods()) {
            boolean face = java.lang.reflect.Modifier.isPublic(m.getModifiers());
            if (face) {
                all.put(m.getName(), m);
            }
        }
        return all;
    }

    private static final Map<String, Method> REAL = methodsOf(WatchHouse.class);
    private static final Map<String, Method> TOLD = methodsOf(Model.class);
    private static final Map<String, Integer> PROMISES = new HashMap<>();

    static {
        REAL.keySet().forEach(name -> PROMISES.put(name, LanguageTest.promiseOf(name)));
    }

    private static long ask(Method m, Object on, Object[] args) {
        try {
            return ((Number) m.invoke(on, args)).longValue();
        } catch (InvocationTargetException | IllegalAccessException e) {
            throw new IllegalStateException(m.getName() + Arrays.toString(args), e);
        }
    }

    private static String pick(Random r, String[] names) {
        return names[r.nextInt(names.length)];
    }

    private static Object[] draw(Random r, String name, int wild) {
        int n = REAL.get(name).getParameterCount();
        int[] range = RANGES.get(name);
        Object[] args = new Object[n];
        for (int i = 0; i < n; i++) {
            boolean edge = r.nextInt(100) < wild;
            args[i] = edge ? EDGES[r.nextInt(EDGES.length)] : range[2 * i] + r.nextInt(range[2 * i + 1] - range[2 * i] + 1);
        }
        return args;
    }

    /** A call that fits what the movement is at, now and then one that does not. */
    private static String choose(Random r, boolean goes, int call) {
        int kind = r.nextInt(100);
        if (kind < 3) {
            return pick(r, goes ? BUILDING : GOING);
        }
        if (kind < 30) {
            return pick(r, QUESTIONS);
        }
        if (kind < 50) {
            return pick(r, HOUSE);
        }
        if (kind == 50 && r.nextInt(12) == 0) {
            return r.nextBoolean() ? "build" : "search";
        }
        return goes ? pick(r, GOING) : call > 40 && r.nextInt(6) == 0 ? "go" : pick(r, BUILDING);
    }

    private static void compare(int seed, int wild) {
        Random r = new Random(seed);
        WatchHouse x = new WatchHouse();
        Model m = new Model();
        int calls = seed % 4 == 0 ? 0 : assemble(r, x, m, seed);
        for (int i = calls; i < CALLS; i++) {
            if (i == CALLS / 2 && seed % 3 == 0) {
                // What the old movement was must not shine through in the next one.
                both(x, m, seed, "build");
                assemble(r, x, m, seed);
            }
            String name = choose(r, x.count(6) == 1, i);
            both(x, m, seed, name, draw(r, name, wild));
        }
        whole(x, m, seed);
    }

    /** A movement that most often ticks well, of arbors that are all linked: how many calls it took. */
    private static int assemble(Random r, WatchHouse x, Model m, int seed) {
        int arbors = 3 + r.nextInt(5);
        for (int i = 0; i < arbors; i++) {
            both(x, m, seed, "arbor");
        }
        both(x, m, seed, "escape", 0, 1 + r.nextInt(8));
        for (int i = 1; i < arbors; i++) {
            int old = r.nextInt(i);
            int few = 1 + r.nextInt(20);
            int many = few + r.nextInt(40);
            int kind = r.nextInt(5);
            if (kind == 0 && i > 1) {
                both(x, m, seed, "epicycle", i, few, old, many, (old + 1) % i);
            } else if (kind == 1 && i > 1) {
                both(x, m, seed, "epicycle", old, few, (old + 1) % i, many, i);
            } else {
                both(x, m, seed, "mesh", old, few, i, many, r.nextInt(2));
            }
        }
        both(x, m, seed, "balance", 1000 + r.nextInt(3097), r.nextInt(6), 10000 + r.nextInt(55536), 500000 + r.nextInt(9000000));
        for (int k = 0; k <= 8; k++) {
            both(x, m, seed, "torque", k, 9000 + r.nextInt(2000) - 1000 * k);
        }
        both(x, m, seed, "barrel", r.nextInt(arbors + 1) - 1);
        for (int i = r.nextInt(8); i >= 0; i--) {
            int on = r.nextInt(arbors);
            switch (r.nextInt(3)) {
                case 0 -> both(x, m, seed, "dial", on, 2 + r.nextInt(9));
                case 1 -> both(x, m, seed, "strike", on, r.nextInt(2));
                default -> both(x, m, seed, "calendar", on, r.nextInt(4), 20 + r.nextInt(9), 1 + r.nextInt(12),
                    r.nextInt(4) == 0 ? 9999 : 1890 + r.nextInt(120));
            }
        }
        for (int i = r.nextInt(4); i >= 0; i--) {
            both(x, m, seed, "chronograph", r.nextInt(3));
        }
        both(x, m, seed, "go");
        both(x, m, seed, "shock", 20000 + r.nextInt(60000));
        return 50;
    }

    /** Everything that can be asked of the movement. */
    private static void whole(WatchHouse x, Model m, int seed) {
        for (int i = 0; i < 24; i++) {
            for (int what = 0; what < 10; what++) {
                both(x, m, seed, "speed", i, what);
                both(x, m, seed, "shows", i, what);
                both(x, m, seed, "hand", i, what);
                both(x, m, seed, "tick", i * 13, what);
                both(x, m, seed, "struck", i * 3, what);
                both(x, m, seed, "state", what);
                both(x, m, seed, "count", what);
            }
        }
    }

    private static void both(WatchHouse x, Model m, int seed, String name, Object... args) {
        long got = ask(REAL.get(name), x, args);
        long want = ask(TOLD.get(name), m, args);
        Due.due(PROMISES.get(name), "seed " + seed + ": " + name + Arrays.toString(args), got, want);
    }

    /** Links of any teeth, so that speeds come near the greatest that is known, and beyond it. */
    private static void gearing(int seed) {
        Random r = new Random(seed);
        WatchHouse x = new WatchHouse();
        Model m = new Model();
        int arbors = 3 + r.nextInt(12);
        int most = seed % 2 == 0 ? 200 : 9;
        for (int i = 0; i < arbors; i++) {
            both(x, m, seed, "arbor");
        }
        for (int i = 0; i < 40; i++) {
            int a = r.nextInt(arbors);
            int few = 1 + r.nextInt(most);
            int many = 1 + r.nextInt(most);
            if (i == 5 || r.nextInt(15) == 0) {
                both(x, m, seed, "escape", a, 1 + r.nextInt(60));
            } else if (r.nextInt(3) == 0) {
                both(x, m, seed, "epicycle", a, few, r.nextInt(arbors), many, r.nextInt(arbors));
            } else {
                both(x, m, seed, "mesh", a, few, r.nextInt(arbors), many, r.nextInt(2));
            }
            for (int k = 0; k < arbors; k++) {
                both(x, m, seed, "speed", k, 0);
                both(x, m, seed, "speed", k, 1);
            }
            both(x, m, seed, "state", 9);
        }
        both(x, m, seed, "go");
    }

    /** The house's own calls alone, of few benches and settings, so that conflicts are many. */
    private static void house(int seed) {
        Random r = new Random(seed);
        WatchHouse x = new WatchHouse();
        Model m = new Model();
        for (int i = 0; i < CALLS; i++) {
            int bench = r.nextInt(3);
            int setting = r.nextInt(3);
            switch (r.nextInt(12)) {
                case 0, 1, 2 -> both(x, m, seed, "change", bench, setting, r.nextInt(5) - 2);
                case 3, 4 -> both(x, m, seed, "merge", bench);
                case 5, 6 -> both(x, m, seed, "settle", bench, setting, r.nextInt(2));
                case 7 -> both(x, m, seed, "conflict", bench, setting);
                case 8 -> both(x, m, seed, "setting", x.version(0) + r.nextInt(5) - 4, setting);
                case 9 -> both(x, m, seed, "setting", -1 - bench, setting);
                case 10 -> trainOrChain(r, x, m, seed);
                default -> {
                    String name = pick(r, HOUSE);
                    both(x, m, seed, name, draw(r, name, 3));
                }
            }
        }
    }

    private static void trainOrChain(Random r, WatchHouse x, Model m, int seed) {
        if (r.nextInt(4) == 0) {
            int low = 4 + r.nextInt(30);
            both(x, m, seed, "teeth", r.nextInt(2), low, low + r.nextInt(8));
            both(x, m, seed, "search", 1 + r.nextInt(300), 1 + r.nextInt(60), 1 + r.nextInt(r.nextInt(8) == 0 ? 3 : 2));
            for (int k = 0; k < 4; k++) {
                both(x, m, seed, "train", k, 0);
                both(x, m, seed, "train", k, 1);
                both(x, m, seed, "error", k);
            }
        } else {
            int least = r.nextInt(41) - 20;
            both(x, m, seed, "size", r.nextBoolean() ? 1 : -1, r.nextInt(300), least, least + r.nextInt(40));
            both(x, m, seed, "limit", r.nextInt(2));
            both(x, m, seed, "ways", x.limit(0) + r.nextInt(20), x.limit(1) - r.nextInt(20));
        }
    }

    /** What the calls answer is compared elsewhere; here none may throw. */
    private static void storm(int seed) {
        Random r = new Random(seed);
        WatchHouse x = new WatchHouse();
        String[] names = REAL.keySet().toArray(new String[0]);
        Arrays.sort(names);
        for (int i = 0; i < CALLS; i++) {
            String name = names[r.nextInt(names.length)];
            Object[] args = new Object[REAL.get(name).getParameterCount()];
            for (int k = 0; k < args.length; k++) {
                args[k] = r.nextInt(8) == 0 ? r.nextInt() : EDGES[r.nextInt(EDGES.length)];
            }
            ask(REAL.get(name), x, args);
        }
    }

    public static void main(String[] args) {
        int runs = args.length > 0 ? Integer.parseInt(args[0]) : 300;
        for (int seed = 1; seed <= runs; seed++) {
            compare(seed, seed % 3 == 0 ? 15 : 4);
        }
        for (int seed = 1; seed <= runs; seed++) {
            gearing(seed);
            house(seed);
            storm(seed);
        }
        Due.end();
    }
}
