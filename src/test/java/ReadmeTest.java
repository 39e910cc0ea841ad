import java.io.IOException;
import java.lang.reflect.InvocationTargetException;
import java.lang.reflect.Method;
import java.nio.file.Files;
import java.nio.file.Path;
import java.util.HashMap;
import java.util.Map;
import java.util.regex.Matcher;
import java.util.regex.Pattern;

/** The examples of README.md: each call in them is made, and its answer is the one that stands behind it; no call is left out of the table. */
public final class ReadmeTest {
    private static final Pattern CALL = Pattern.compile("x\\.(\\w+)\\(([-\\d, ]*)\\);\\s*// (-?\\d+)(: .*)?");

    private static Map<String, Method> calls() {
        Map<String, Method> calls = new HashMap<>();
        for (Method m : WatchHouse.class.getDeclaredMethods()) {
            if (java.lang.reflect.Modifier.isPublic(m.getModifiers())) {
                calls.put(m.getName(), m);
            }
        }
        return calls;
    }

    private static Object[] numbers(String list) {
        if (list.isBlank()) {
            return new Object[0];
        }
        String[] parts = list.split(",");
        Object[] numbers = new Object[parts.length];
        for (int i = 0; i < parts.length; i++) {
            numbers[i] = Integer.valueOf(parts[i].trim());
        }
        return numbers;
    }

    public static void main(String[] args) throws IOException, IllegalAccessException, InvocationTargetException {
        String readme = Files.readString(Path.of("README.md"));
        Map<String, Method> calls = calls();
        for (String name : calls.keySet()) {
            Due.due(LanguageTest.promiseOf(name), "README.md names " + name, readme.contains("`" + name + "`") ? 1 : 0, 1);
        }
        WatchHouse x = null;
        boolean code = false;
        for (String line : readme.split("\n")) {
            if (line.startsWith("```")) {
                code = line.equals("```java");
            } else if (code && line.equals("WatchHouse x = new WatchHouse();")) {
                x = new WatchHouse();
            } else if (code && !line.isBlank()) {
                Matcher call = CALL.matcher(line);
                Due.due(0, "README.md: '" + line + "' is a call with its answer", call.matches() ? 1 : 0, 1);
                if (call.matches()) {
                    Number got = (Number) calls.get(call.group(1)).invoke(x, numbers(call.group(2)));
                    Due.due(LanguageTest.promiseOf(call.group(1)), "README.md: " + line, got.longValue(), Long.parseLong(call.group(3)));
                }
            }
        }
        Due.end();
    }
}
