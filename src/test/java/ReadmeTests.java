import java.lang.reflect.InvocationTargetException;
import java.lang.reflect.Method;
import java.lang.reflect.Modifier;
import java.nio.file.Files;
import java.nio.file.Path;
import java.util.List;
import java.util.regex.Matcher;
import java.util.regex.Pattern;

/**
 * README.md's examples, run as they stand there, one behind the other on one object: every call
 * gives the answer that stands behind it. And README.md has every call of the class.
 */
public final class ReadmeTests {
    private static final String MADE = "WordFunctions x = new WordFunctions();";
    private static final Pattern CALL = Pattern.compile("x\\.(\\w+)\\((.*)\\);\\s*// (.+)");

    private ReadmeTests() { }

    public static void main(String[] args) throws Exception {
        List<String> lines = Files.readAllLines(Path.of("README.md"));
        examples(lines);
        everyCallIsThere(lines);
        Probe.finish("ReadmeTests");
    }

    private static void examples(List<String> lines) throws Exception {
        WordFunctions x = null;
        boolean inExample = false;
        int calls = 0;
        for (String line : lines) {
            if (line.startsWith("```")) {
                inExample = line.equals("```java");
            } else if (inExample && line.equals(MADE)) {
                Probe.holds("README: one object", x == null);
                x = new WordFunctions();
            } else if (inExample) {
                example(x, line);
                calls++;
            }
        }
        Probe.holds("README: there are examples", calls > 0 && calls <= 512);
    }

    private static void example(WordFunctions x, String line) throws Exception {
        Matcher parts = CALL.matcher(line);
        if (x == null || !parts.matches()) {
            Probe.same("README: a call and its answer", line, "x.call(arguments);  // answer");
            return;
        }
        Method method = method(parts.group(1));
        String[] given = parts.group(2).isEmpty() ? new String[0] : parts.group(2).split(", ");
        Object[] arguments = new Object[given.length];
        for (int k = 0; k < given.length; k++) {
            arguments[k] = read(given[k]);
        }
        String due = parts.group(3);
        String answered = answered(x, method, arguments);
        if (!answered.equals("nothing") || due.startsWith("throws")) {
            String first = due.split("[:;]")[0];
            boolean thrown = first.startsWith("throws") || answered.startsWith("throws");
            Probe.same("README: " + line, answered, thrown ? first : String.valueOf(read(first)));
        }
    }

    private static Method method(String name) {
        for (Method method : WordFunctions.class.getDeclaredMethods()) {
            if (Modifier.isPublic(method.getModifiers()) && method.getName().equals(name)) {
                return method;
            }
        }
        throw new IllegalStateException("README has a call that there isn't: " + name);
    }

    private static String answered(WordFunctions x, Method method, Object[] arguments)
            throws IllegalAccessException {
        try {
            Object answer = method.invoke(x, arguments);
            return answer == null ? "nothing" : String.valueOf(answer);
        } catch (InvocationTargetException e) {
            return "throws " + e.getCause().getClass().getSimpleName();
        }
    }

    /** What a literal of Java stands for; a character for its number. */
    private static Object read(String literal) {
        if (literal.equals("true") || literal.equals("false")) {
            return literal.equals("true");
        }
        if (literal.matches("'.'")) {
            return (int) literal.charAt(1);
        }
        return literal.contains(".") ? (Object) Double.valueOf(literal) : Integer.decode(literal);
    }

    private static void everyCallIsThere(List<String> lines) {
        for (Method method : WordFunctions.class.getDeclaredMethods()) {
            if (Modifier.isPublic(method.getModifiers())) {
                String row = "| `" + method.getName() + "(";
                Probe.holds("README: the calls have " + method.getName(),
                        lines.stream().anyMatch(line -> line.startsWith(row)));
                String shown = "x." + method.getName() + "(";
                Probe.holds("README: the examples have " + method.getName(),
                        lines.stream().anyMatch(line -> line.startsWith(shown)));
            }
        }
    }
}
