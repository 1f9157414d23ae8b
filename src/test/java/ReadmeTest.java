import java.io.IOException;
import java.lang.reflect.Method;
import java.lang.reflect.Modifier;
import java.nio.file.Files;
import java.nio.file.Path;
import java.util.regex.Matcher;
import java.util.regex.Pattern;

/** What README.md says of the calls is what they answer. */
public final class ReadmeTest {
    private static final Pattern MADE = Pattern.compile("ReturnPoints x = new ReturnPoints\\((\\d+)\\);");
    private static final Pattern CALL = Pattern.compile("x\\.(\\w+)\\(([^)]*)\\); +// (-?\\d+).*");
    private static final int LEAST_CALLS = 20;

    private static int wrong = 0;
    private static int calls = 0;

    private static void complain(String what) {
        wrong++;
        System.out.println("README.md: " + what);
    }

    private static Method method(String name) {
        for (Method method : ReturnPoints.class.getDeclaredMethods()) {
            if (Modifier.isPublic(method.getModifiers()) && method.getName().equals(name)) {
                return method;
            }
        }
        return null;
    }

    private static Object[] arguments(Method method, String list) {
        String[] words = list.isEmpty() ? new String[0] : list.split(", ");
        Object[] given = new Object[words.length];
        for (int i = 0; i < words.length; i++) {
            long value = words[i].equals("ReturnPoints.NONE") ? ReturnPoints.NONE : Long.parseLong(words[i]);
            given[i] = method.getParameterTypes()[i] == long.class ? (Object) value : (Object) (int) value;
        }
        return given;
    }

    private static void example(String[] lines) throws ReflectiveOperationException {
        ReturnPoints x = null;
        for (String line : lines) {
            Matcher made = MADE.matcher(line);
            Matcher call = CALL.matcher(line);
            if (made.matches()) {
                x = new ReturnPoints(Integer.parseInt(made.group(1)));
            } else if (call.matches()) {
                calls++;
                Method method = method(call.group(1));
                long got = ((Number) method.invoke(x, arguments(method, call.group(2)))).longValue();
                if (got != Long.parseLong(call.group(3))) {
                    complain(line + " .. answered " + got);
                }
            } else if (line.startsWith("x.")) {
                complain("not read: " + line);
            }
        }
        if (calls < LEAST_CALLS) {
            complain("too few calls are found: " + calls);
        }
    }

    private static void table(String text) {
        for (Method method : ReturnPoints.class.getDeclaredMethods()) {
            if (Modifier.isPublic(method.getModifiers())) {
                Matcher row = Pattern.compile("(?m)^\\| `" + method.getName() + "\\(([^)]*)\\)` \\| .+ \\|$").matcher(text);
                int names = method.getParameterCount();
                if (!row.find() || (row.group(1).isEmpty() ? 0 : row.group(1).split(", ").length) != names) {
                    complain("no row of " + method);
                }
            }
        }
    }

    public static void main(String[] args) throws IOException, ReflectiveOperationException {
        String text = Files.readString(Path.of("README.md"));
        example(text.split("\n"));
        table(text);
        System.out.println(wrong == 0 ? "README.md: " + calls + " calls answer as it says" : wrong + " are not as due");
        if (wrong != 0) {
            System.exit(1);
        }
    }
}
