import java.io.IOException;
import java.lang.reflect.Method;
import java.nio.file.Files;
import java.nio.file.Path;
import java.util.Set;
import java.util.TreeSet;
import java.util.regex.Matcher;
import java.util.regex.Pattern;

/** The calls in README.md's example answer what is written beside them, and README.md tells of each method. */
public final class ReadmeTest {
    private static final Check CHECK = new Check();
    private static final Pattern EXAMPLE = Pattern.compile("library\\.(\\w+)\\(([^)]*)\\); +// (-?\\d+):.*");

    public static void main(String[] args) throws IOException, ReflectiveOperationException {
        PlainLibrary library = new PlainLibrary();
        Set<String> shown = new TreeSet<>();
        for (String line : Files.readAllLines(Path.of("README.md"))) {
            Matcher example = EXAMPLE.matcher(line);
            if (example.matches()) {
                shown.add(example.group(1));
                CHECK.due(line, answer(library, example.group(1), example.group(2)), Long.parseLong(example.group(3)));
            }
        }
        String text = Files.readString(Path.of("README.md"));
        for (Method method : faceMethods()) {
            CHECK.holds("the example shows " + method.getName(), shown.contains(method.getName()));
            CHECK.holds("the table tells of " + method.getName(), text.contains("| `" + method.getName() + "("));
        }
        CHECK.end();
    }

    private static Set<Method> faceMethods() {
        Set<Method> found = new TreeSet<>((one, other) -> one.getName().compareTo(other.getName()));
        for (Method method : PlainLibrary.class.getMethods()) {
            if (method.getDeclaringClass() == PlainLibrary.class) {
                found.add(method);
            }
        }
        return found;
    }

    private static long answer(PlainLibrary library, String name, String given) throws ReflectiveOperationException {
        for (Method method : faceMethods()) {
            if (method.getName().equals(name)) {
                return ((Number) method.invoke(library, arguments(method, given))).longValue();
            }
        }
        throw new NoSuchMethodException(name);
    }

    private static Object[] arguments(Method method, String given) {
        Class<?>[] types = method.getParameterTypes();
        Object[] arguments = new Object[types.length];
        String[] parts = given.split(", ");
        for (int i = 0; i < types.length; i++) {
            if (types[i] == long.class) {
                arguments[i] = Long.valueOf(parts[i]);
            } else {
                arguments[i] = Integer.valueOf(parts[i]);
            }
        }
        return arguments;
    }
}
