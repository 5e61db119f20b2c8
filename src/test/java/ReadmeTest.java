import java.io.IOException;
import java.lang.reflect.Method;
import java.lang.reflect.Modifier;
import java.nio.file.Files;
import java.nio.file.Path;
import java.util.List;
import java.util.regex.Matcher;
import java.util.regex.Pattern;

/** That README.md names each call of the face, and that its example answers what stands behind each call. */
public final class ReadmeTest {
    private static final Check CHECK = new Check();
    private static final Pattern TABLE_CALL = Pattern.compile("^\\| `(\\w+)\\(([^)]*)\\)` \\|");
    private static final Pattern EXAMPLE_CALL = Pattern.compile("^x\\.(\\w+)\\(([^)]*)\\); +// (-?\\w+).*");

    public static void main(String[] args) throws IOException, ReflectiveOperationException {
        List<String> lines = Files.readAllLines(Path.of("README.md"));
        for (Method method : LabourExchange.class.getDeclaredMethods()) {
            if (Modifier.isPublic(method.getModifiers())) {
                CHECK.due("rows of README.md for " + method.getName(), 1, rowsFor(method, lines));
            }
        }
        example(lines);
        CHECK.end();
    }

    private static int rowsFor(Method method, List<String> lines) {
        int rows = 0;
        for (String line : lines) {
            Matcher row = TABLE_CALL.matcher(line);
            boolean found = row.find() && row.group(1).equals(method.getName());
            rows += found && words(row.group(2)).length == method.getParameterCount() ? 1 : 0;
        }
        return rows;
    }

    private static void example(List<String> lines) throws ReflectiveOperationException {
        LabourExchange x = new LabourExchange();
        int calls = 0;
        for (String line : lines) {
            Matcher call = EXAMPLE_CALL.matcher(line);
            if (call.matches()) {
                String[] words = words(call.group(2));
                Object got = methodOf(call.group(1), words.length).invoke(x, arguments(words));
                CHECK.due(line + " (" + got + ")", true, String.valueOf(got).equals(call.group(3)));
                calls++;
            }
        }
        CHECK.due("calls of the example", 24, calls);
    }

    private static Method methodOf(String name, int parameters) throws NoSuchMethodException {
        for (Method method : LabourExchange.class.getMethods()) {
            if (method.getName().equals(name) && method.getParameterCount() == parameters) {
                return method;
            }
        }
        throw new NoSuchMethodException(name);
    }

    private static String[] words(String list) {
        return list.isEmpty() ? new String[0] : list.split(", ");
    }

    private static Object[] arguments(String[] words) {
        Object[] arguments = new Object[words.length];
        for (int i = 0; i < words.length; i++) {
            boolean truth = words[i].equals("true") || words[i].equals("false");
            arguments[i] = truth ? (Object) Boolean.valueOf(words[i]) : (Object) Integer.decode(words[i]);
        }
        return arguments;
    }
}
