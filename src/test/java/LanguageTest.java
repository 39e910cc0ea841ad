import java.lang.reflect.Array;
import java.lang.reflect.Constructor;
import java.lang.reflect.Field;
import java.lang.reflect.Method;
import java.lang.reflect.Modifier;
import java.nio.file.Files;
import java.nio.file.Path;
import java.util.ArrayDeque;
import java.util.Collections;
import java.util.Deque;
import java.util.HashMap;
import java.util.HashSet;
import java.util.IdentityHashMap;
import java.util.Map;
import java.util.Set;
import java.util.TreeSet;
import java.util.regex.Matcher;
import java.util.regex.Pattern;

/** The rules of LANGUAGE.md that can be seen in the source's words, in the class's members and in an object's room. */
public final class LanguageTest {
    private static final String[] FACE = {"build()", "arbor()", "mesh(int,int,int,int,int)", "epicycle(int,int,int,int,int)",
        "escape(int,int)", "balance(int,int,int,int)", "barrel(int)", "torque(int,int)", "dial(int,int)",
        "calendar(int,int,int,int,int)", "strike(int,int)", "chronograph(int)", "go()", "run(int)", "shock(int)", "wind(int)",
        "press(int,int)", "correct(int,int,int)", "trip(int)", "back(int)", "speed(int,int):long", "state(int):long",
        "tick(int,int)", "shows(int,int)", "struck(int,int)", "hand(int,int)", "count(int)", "teeth(int,int,int)",
        "search(int,int,int)", "train(int,int)", "error(int):long", "chain()", "size(int,int,int,int)", "limit(int)",
        "ways(int,int):long", "rate(int,int)", "verdict(int)", "change(int,int,int)", "merge(int)", "conflict(int,int)",
        "settle(int,int,int)", "setting(int,int)", "version(int)", "never(int)"};

    /** The document numbers its promises as it tells its face, the constructor being the first. */
    static int promiseOf(String name) {
        for (int i = 0; i < FACE.length; i++) {
            if (FACE[i].startsWith(name + "(")) {
                return i + 2;
            }
        }
        return 0;
    }

    private static void due(String what, long got, long want) {
        Due.due(0, what, got, want);
    }

    private static String signature(Method m) {
        StringBuilder s = new StringBuilder(m.getName()).append('(');
        for (Class<?> p : m.getParameterTypes()) {
            s.append(s.charAt(s.length() - 1) == '(' ? "" : ",").append(p.getSimpleName());
        }
        s.append(')');
        return m.getReturnType() == int.class ? s.toString() : s + ":" + m.getReturnType().getSimpleName();
    }

    private static void face() {
        Set<String> open = new TreeSet<>();
        Set<String> names = new HashSet<>();
        for (Method m : WatchHouse.class.getDeclaredMethods()) {
            if (Modifier.isPublic(m.getModifiers())) {
                open.add(signature(m));
                names.add(m.getName());
            }
        }
        due("rule 1: the face " + open, open.equals(new TreeSet<>(Set.of(FACE))) ? 1 : 0, 1);
        for (Method m : WatchHouse.class.getDeclaredMethods()) {
            if (!Modifier.isPublic(m.getModifiers())) {
                due("rule 1: " + m.getName() + " is private", Modifier.isPrivate(m.getModifiers()) ? 1 : 0, 1);
                due("rule 1: " + m.getName() + " is no public name", names.contains(m.getName()) ? 1 : 0, 0);
            }
        }
        for (Field f : WatchHouse.class.getDeclaredFields()) {
            boolean constant = Set.of("BAD", "NO", "FULL", "NONE").contains(f.getName());
            due("rule 1: field " + f.getName(), Modifier.isPrivate(f.getModifiers()) ? 0 : 1, constant ? 1 : 0);
        }
        long[] constants = {WatchHouse.BAD, WatchHouse.NO, WatchHouse.FULL, WatchHouse.NONE};
        long[] values = {-1, -2, -3, -9999999};
        for (int i = 0; i < values.length; i++) {
            due("the face: constant " + i, constants[i], values[i]);
        }
        Constructor<?>[] made = WatchHouse.class.getDeclaredConstructors();
        due("rule 1: one constructor", made.length, 1);
        due("rule 1: without arguments", made[0].getParameterCount(), 0);
        due("rule 1: the class is final", Modifier.isFinal(WatchHouse.class.getModifiers()) ? 1 : 0, 1);
    }

    private static void nested() {
        Class<?>[] classes = WatchHouse.class.getDeclaredClasses();
        due("rule 11: twelve classes at most", classes.length <= 11 ? 1 : 0, 1);
        for (Class<?> c : classes) {
            due("rule 2: " + c.getSimpleName() + " is static", Modifier.isStatic(c.getModifiers()) ? 1 : 0, 1);
            int fields = 0;
            for (Field f : c.getDeclaredFields()) {
                boolean constant = Modifier.isStatic(f.getModifiers());
                fields += constant ? 0 : 1;
                due("rule 5: " + f.getName(), constant && !Modifier.isFinal(f.getModifiers()) ? 1 : 0, 0);
            }
            due("rule 11: fields of " + c.getSimpleName(), fields <= 20 ? 1 : 0, 1);
            for (Method m : c.getDeclaredMethods()) {
                due("rule 11: arguments of " + m.getName(), m.getParameterCount() <= 7 ? 1 : 0, 1);
            }
        }
    }

    private static void words() throws java.io.IOException {
        String source = Files.readString(Path.of("src/main/java/WatchHouse.java"));
        String code = source.replaceAll("(?s)/\\*.*?\\*/", "").replaceAll("//[^\n]*", "");
        Matcher word = Pattern.compile("\\b(throw|throws|try|catch|finally|synchronized|assert|package|double|float|\\w+Exact|hashCode|"
            + "toString|Random|Thread|String|Object|native|volatile)\\b|->|::|\\?\\s*super|new \\w+\\([^;{]*\\)\\s*\\{").matcher(code);
        while (word.find()) {
            due("rules 2, 4, 6: '" + word.group() + "' is in the source", 1, 0);
        }
        Matcher imported = Pattern.compile("import ([\\w.*]+);").matcher(code);
        while (imported.find()) {
            due("rule 4: import " + imported.group(1), imported.group(1).equals("java.util.Arrays") ? 1 : 0, 1);
        }
        Matcher loop = Pattern.compile("\\b(while|do)\\b").matcher(code);
        due("rule 9: every loop counts", loop.find() ? 1 : 0, 0);
        for (int i = 0; i < source.length(); i++) {
            if (source.charAt(i) > 126) {
                due("a character beyond ASCII at " + i, 1, 0);
            }
        }
        longMethods(source);
        Map<String, Set<String>> called = callsByName(code);
        due("rule 11: methods that were found in the source", called.size() > 100 ? 1 : 0, 1);
        for (String name : called.keySet()) {
            due("rules 8, 11: calls behind " + name + "() go eight deep at most, and none calls itself", depth(name, called, 1) <= 8 ? 1 : 0, 1);
        }
    }

    /** What each method calls, by name alone: methods of one name count as one, those of the library have none behind them. */
    private static Map<String, Set<String>> callsByName(String code) {
        Map<String, Set<String>> called = new HashMap<>();
        Matcher head = Pattern.compile("(?m)^( {4}| {8})(?:[\\w\\[\\]]+ )*(\\w+)\\([^)]*\\) \\{$").matcher(code);
        while (head.find()) {
            int end = code.indexOf("\n" + head.group(1) + "}\n", head.end());
            Matcher call = Pattern.compile("\\b(?!if\\b|for\\b|switch\\b|return\\b)(\\w+)\\(").matcher(code.substring(head.end(), end));
            Set<String> names = called.computeIfAbsent(head.group(2), name -> new HashSet<>());
            while (call.find()) {
                names.add(call.group(1));
            }
        }
        return called;
    }

    /** How many calls stand open at most from this one on; one that comes around to itself is too deep at once. */
    private static int depth(String name, Map<String, Set<String>> called, int open) {
        int deepest = open;
        for (String next : open > 20 ? Set.<String>of() : called.getOrDefault(name, Set.of())) {
            deepest = Math.max(deepest, depth(next, called, open + 1));
        }
        return deepest;
    }

    /** Methods of the class and of those inside it begin at four or eight blanks, and end there. */
    private static void longMethods(String source) {
        String[] lines = source.split("\n");
        for (int i = 0; i < lines.length; i++) {
            Matcher head = Pattern.compile("^( {4}| {8})\\S.*\\) \\{$").matcher(lines[i]);
            if (head.find()) {
                int end = i;
                while (end < lines.length && !lines[end].equals(head.group(1) + "}")) {
                    end++;
                }
                due("rule 11: '" + lines[i].trim() + "' is short", end - i <= 60 ? 1 : 0, 1);
            }
        }
    }

    private static void room() throws IllegalAccessException {
        WatchHouse x = Due.oneArbor(1);
        for (int i = 0; i < 8; i++) {
            x.calendar(0, 3, 1, 1, 1);
        }
        x.go();
        x.shock(50000);
        x.run(20000);
        long[] counted = countRoom(x);
        System.out.println("an object takes " + counted[0] + " objects and " + counted[1] + " fields and elements");
        due("rule 12: objects", counted[0] <= 100 ? 1 : 0, 1);
        due("rule 12: fields and elements", counted[1] <= 40000 ? 1 : 0, 1);
    }

    private static long[] countRoom(Object first) throws IllegalAccessException {
        Set<Object> seen = Collections.newSetFromMap(new IdentityHashMap<>());
        Deque<Object> open = new ArrayDeque<>();
        open.add(first);
        long cells = 0;
        while (!open.isEmpty()) {
            Object o = open.poll();
            if (!seen.add(o)) {
                continue;
            }
            if (o.getClass().isArray()) {
                cells += Array.getLength(o);
                for (int i = 0; !o.getClass().getComponentType().isPrimitive() && i < Array.getLength(o); i++) {
                    if (Array.get(o, i) != null) {
                        open.add(Array.get(o, i));
                    }
                }
                continue;
            }
            for (Class<?> c = o.getClass(); c != Object.class; c = c.getSuperclass()) {
                for (Field f : c.getDeclaredFields()) {
                    if (!Modifier.isStatic(f.getModifiers())) {
                        cells++;
                        f.setAccessible(true);
                        if (!f.getType().isPrimitive() && f.get(o) != null) {
                            open.add(f.get(o));
                        }
                    }
                }
            }
        }
        return new long[] {seen.size(), cells};
    }

    public static void main(String[] args) throws java.io.IOException, IllegalAccessException {
        face();
        nested();
        words();
        room();
        Due.end();
    }
}
