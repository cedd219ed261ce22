import java.io.IOException;
import java.lang.reflect.InvocationTargetException;
import java.lang.reflect.Method;
import java.lang.reflect.Modifier;
import java.nio.charset.StandardCharsets;
import java.nio.file.Files;
import java.nio.file.Paths;
import java.util.List;
import java.util.TreeSet;
import java.util.regex.Matcher;
import java.util.regex.Pattern;

/** The example in README.md: what a call is said to answer there is what the class answers. */
public final class CellRows2ReadmeTest extends Checks {

    private static final Pattern MADE = Pattern.compile("CellRows2 battery = new CellRows2\\((-?\\d+)\\);");
    // Behind a comma or a colon stands what is said to the reader alone.
    private static final Pattern CALLED = Pattern.compile(
        "battery\\.(\\w+)\\(([^)]*)\\);\\s*// (throws \\w+|-?\\d+(?:\\.\\d+)?)(?:[:,].*)?");

    private static final TreeSet<String> called = new TreeSet<>();

    public static void main(String[] args) throws IOException {
        sentence("what it says an example call answers is what the class answers");
        List<String> lines = Files.readAllLines(Paths.get("README.md"), StandardCharsets.UTF_8);
        CellRows2 battery = null;
        boolean inExample = false;
        for (String line : lines) {
            if (line.startsWith("```")) {
                inExample = line.equals("```java");
            } else if (inExample) {
                battery = follow(battery, line);
            }
        }
        TreeSet<String> face = new TreeSet<>();
        for (Method method : CellRows2.class.getDeclaredMethods()) {
            if (Modifier.isPublic(method.getModifiers())) {
                face.add(method.getName());
            }
        }
        due("methods in the example", called.toString(), face.toString());
        end("the example of README.md answers as it says");
    }

    private static CellRows2 follow(CellRows2 battery, String line) {
        Matcher made = MADE.matcher(line);
        if (made.matches()) {
            return new CellRows2(Integer.parseInt(made.group(1)));
        }
        Matcher call = CALLED.matcher(line);
        if (battery == null || !call.matches()) {
            due("a line of the example", line, "a call with its answer");
            return battery;
        }
        called.add(call.group(1));
        due(line, answerOf(battery, call.group(1), call.group(2)), call.group(3));
        return battery;
    }

    private static String answerOf(CellRows2 battery, String name, String given) {
        String[] parts = given.isEmpty() ? new String[0] : given.split(", ");
        for (Method method : CellRows2.class.getDeclaredMethods()) {
            if (Modifier.isPublic(method.getModifiers()) && method.getName().equals(name)
                    && method.getParameterCount() == parts.length) {
                return answerOf(battery, method, parts);
            }
        }
        return "no such method";
    }

    private static String answerOf(CellRows2 battery, Method method, String[] parts) {
        Object[] arguments = new Object[parts.length];
        for (int i = 0; i < parts.length; i++) {
            arguments[i] = argument(method.getParameterTypes()[i], parts[i]);
        }
        try {
            return String.valueOf(method.invoke(battery, arguments));
        } catch (InvocationTargetException e) {
            return "throws " + e.getCause().getClass().getSimpleName();
        } catch (IllegalAccessException e) {
            return "not public";
        }
    }

    private static Object argument(Class<?> kind, String text) {
        if (kind == boolean.class) {
            return Boolean.valueOf(text);
        }
        if (kind == long.class) {
            return Long.valueOf(text);
        }
        return Integer.valueOf(text);
    }
}
