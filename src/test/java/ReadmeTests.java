import java.io.IOException;
import java.lang.reflect.Field;
import java.lang.reflect.Method;
import java.lang.reflect.Modifier;
import java.nio.file.Files;
import java.nio.file.Path;
import java.util.regex.Matcher;
import java.util.regex.Pattern;

/** README.md says what stands: its example answers as it tells, and it names every call, code and status. */
final class ReadmeTests {
    private static final Pattern EXAMPLE = Pattern.compile("notebook\\.(\\w+)\\(([^)]*)\\);\\s+// (-?\\d+)");
    private static final Checks checks = new Checks("ReadmeTests");

    public static void main(String[] args) throws IOException, ReflectiveOperationException {
        String readme = Files.readString(Path.of("README.md"));
        example(readme);
        calls(readme);
        constants(readme);
        tests(readme);
        checks.finish();
    }

    private static void example(String readme) throws ReflectiveOperationException {
        ReactiveNotebook notebook = new ReactiveNotebook();
        Matcher line = EXAMPLE.matcher(readme);
        int lines = 0;
        while (line.find()) {
            lines++;
            checks.due("line " + lines + ", " + line.group(1), call(notebook, line.group(1), line.group(2)), Long.parseLong(line.group(3)));
        }
        checks.due("lines of the example", lines, readme.split("\n *notebook\\.", -1).length - 1);
        checks.holds("there is an example", lines > 0);
    }

    private static long call(ReactiveNotebook notebook, String name, String text) throws ReflectiveOperationException {
        String[] words = text.isBlank() ? new String[0] : text.split(", ");
        Class<?>[] types = new Class<?>[words.length];
        Object[] numbers = new Object[words.length];
        for (int i = 0; i < words.length; i++) {
            types[i] = int.class;
            numbers[i] = Integer.valueOf(words[i]);
        }
        Method method = ReactiveNotebook.class.getMethod(name, types);
        return ((Number) method.invoke(notebook, numbers)).longValue();
    }

    private static void calls(String readme) {
        for (Method method : ReactiveNotebook.class.getDeclaredMethods()) {
            if (Modifier.isPublic(method.getModifiers())) {
                Pattern row = Pattern.compile("\\| `" + method.getName() + "\\((\\w+(, \\w+)*)?\\)` \\|");
                Matcher found = row.matcher(readme);
                boolean told = found.find();
                checks.holds("a row tells of " + method.getName(), told);
                int arguments = !told || found.group(1) == null ? 0 : found.group(1).split(", ").length;
                checks.due("arguments of " + method.getName(), arguments, method.getParameterCount());
            }
        }
    }

    private static void constants(String readme) throws ReflectiveOperationException {
        for (Field field : ReactiveNotebook.class.getDeclaredFields()) {
            if (Modifier.isPublic(field.getModifiers())) {
                String number = String.valueOf(field.getInt(null));
                Pattern told = Pattern.compile("`" + field.getName() + "`( \\| |, | )" + number + "\\b");
                checks.holds(field.getName() + " is told with its number", told.matcher(readme).find());
            }
        }
    }

    private static void tests(String readme) throws IOException {
        try (var files = Files.list(Path.of("src", "test", "java"))) {
            for (Path file : files.toList()) {
                String name = file.getFileName().toString().replace(".java", "");
                checks.holds(name + " is named", readme.contains("`" + name + "`"));
            }
        }
    }
}
