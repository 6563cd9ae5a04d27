import java.io.IOException;
import java.lang.reflect.InvocationTargetException;
import java.lang.reflect.Method;
import java.lang.reflect.Modifier;
import java.nio.file.Files;
import java.nio.file.Path;
import java.util.HashSet;
import java.util.Set;
import java.util.regex.Matcher;
import java.util.regex.Pattern;

/** What README.md tells: each answer beside a call of its example, and the names of classes and tests. */
public final class ReadmeTest {
    private static final Due due = new Due("ReadmeTest");
    private static final Path README = Path.of("README.md");
    private static final Pattern CALL = Pattern.compile("x\\.(\\w+)\\(([^)]*)\\);");
    private static final Pattern TOLD = Pattern.compile("// (-?\\d+)\\b");

    private final MiddleOne x = new MiddleOne();
    private final Set<String> called = new HashSet<>();
    private int calls = 0;

    private static Method methodOf(String name) {
        for (Method m : MiddleOne.class.getDeclaredMethods()) {
            if (Modifier.isPublic(m.getModifiers()) && m.getName().equals(name)) return m;
        }
        return null;
    }

    private static Object value(String word, Class<?> type) {
        long v = word.startsWith("'") ? word.charAt(1) : Long.parseLong(word);
        if (type == long.class) return v;
        return (int) v;
    }

    private long answer(String name, String words) throws IllegalAccessException, InvocationTargetException {
        Method m = methodOf(name);
        if (m == null) throw new IllegalStateException("no call " + name);
        Class<?>[] types = m.getParameterTypes();
        String[] parts = words.isBlank() ? new String[0] : words.split(", ");
        Object[] values = new Object[types.length];
        for (int i = 0; i < types.length; i++) values[i] = value(parts[i], types[i]);
        called.add(name);
        calls++;
        return ((Number) m.invoke(x, values)).longValue();
    }

    /** Several calls may stand on a line; what is told is the answer of the last one. */
    private void line(String line) throws IllegalAccessException, InvocationTargetException {
        Matcher call = CALL.matcher(line);
        String last = null;
        long got = 0;
        while (call.find()) {
            last = call.group();
            got = answer(call.group(1), call.group(2));
        }
        Matcher told = TOLD.matcher(line);
        if (last != null && told.find()) due.is(last, got, Long.parseLong(told.group(1)));
    }

    private void example(String readme) throws IllegalAccessException, InvocationTargetException {
        int from = readme.indexOf("```java"), to = readme.indexOf("```", from + 3);
        due.holds("README.md has an example", from >= 0 && to > from);
        for (String line : readme.substring(from, to).split("\n")) line(line);
        due.holds("an object is used for 512 calls at most", calls <= 512);
        for (Method m : MiddleOne.class.getDeclaredMethods()) {
            if (Modifier.isPublic(m.getModifiers())) due.holds("the example shows " + m.getName(), called.contains(m.getName()));
        }
    }

    private static void names(String readme) {
        for (Class<?> c : MiddleOne.class.getDeclaredClasses()) {
            due.holds("README.md names " + c.getSimpleName(), readme.contains("| `" + c.getSimpleName() + "` |"));
        }
        Matcher m = Pattern.compile("`(\\w+Test)`").matcher(readme);
        while (m.find()) due.holds(m.group(1) + " is there", Files.exists(Path.of("src/test/java", m.group(1) + ".java")));
    }

    public static void main(String[] args) throws IOException, IllegalAccessException, InvocationTargetException {
        String readme = Files.readString(README);
        new ReadmeTest().example(readme);
        names(readme);
        due.ends();
    }
}
