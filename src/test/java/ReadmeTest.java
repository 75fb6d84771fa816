import java.io.IOException;
import java.lang.reflect.Method;
import java.lang.reflect.Modifier;
import java.nio.file.Files;
import java.nio.file.Path;
import java.util.HashMap;
import java.util.Map;
import java.util.regex.Matcher;
import java.util.regex.Pattern;

/** The calls of README.md's example answer what stands behind them, and README.md names every call. */
public final class ReadmeTest {
    // int name = spans.call(arguments);   // answer
    private static final Pattern STEP =
            Pattern.compile("(?:int (\\w+) = )?spans\\.(\\w+)\\(([^)]*)\\);\\s*// (-?\\d+)(?::.*)?");
    private static final String FIRST_LINE = "FingerSpans spans = new FingerSpans();";

    private final Checks checks = new Checks();
    private final FingerSpans spans = new FingerSpans();
    private final Map<String, Long> named = new HashMap<>();

    public static void main(String[] args) throws IOException, ReflectiveOperationException {
        new ReadmeTest().run(Files.readString(Path.of("README.md")));
    }

    private void run(String text) throws ReflectiveOperationException {
        checks.about("README.md");
        int steps = 0;
        for (String line : example(text).split("\n")) {
            if (!line.equals(FIRST_LINE)) {
                step(line);
                steps++;
            }
        }
        checks.due("an example is there", steps > 0 ? 1 : 0, 1);
        for (Method method : FingerSpans.class.getDeclaredMethods()) {
            if (Modifier.isPublic(method.getModifiers())) {
                checks.due(method.getName() + " is named", text.contains("`" + method.getName() + "(") ? 1 : 0, 1);
            }
        }
        checks.finish();
    }

    private static String example(String text) {
        Matcher block = Pattern.compile("(?s)```java\n(.*?)\n```").matcher(text);
        return block.find() ? block.group(1) : FIRST_LINE;
    }

    private void step(String line) throws ReflectiveOperationException {
        Matcher parts = STEP.matcher(line);
        if (!parts.matches()) {
            checks.due("a line", line, "a call with its answer");
            return;
        }
        long got = answer(parts.group(2), parts.group(3).split(", "));
        checks.due(line, got, Long.parseLong(parts.group(4)));
        if (parts.group(1) != null) {
            named.put(parts.group(1), got);
        }
    }

    private long answer(String name, String[] words) throws ReflectiveOperationException {
        Method method = methodOf(name);
        Object[] values = new Object[words.length];
        for (int i = 0; i < words.length; i++) {
            values[i] = value(words[i], method.getParameterTypes()[i]);
        }
        return ((Number) method.invoke(spans, values)).longValue();
    }

    private static Method methodOf(String name) throws NoSuchMethodException {
        for (Method method : FingerSpans.class.getMethods()) {
            if (method.getName().equals(name)) {
                return method;
            }
        }
        throw new NoSuchMethodException(name);
    }

    private Object value(String word, Class<?> type) {
        if (type == boolean.class) {
            return Boolean.valueOf(word);
        }
        long number = named.containsKey(word) ? named.get(word) : Long.parseLong(word);
        if (type == long.class) {
            return number;
        }
        return (int) number;
    }
}
