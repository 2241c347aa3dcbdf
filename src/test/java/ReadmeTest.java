import java.io.IOException;
import java.lang.reflect.Field;
import java.lang.reflect.Method;
import java.lang.reflect.Modifier;
import java.nio.file.Files;
import java.nio.file.Path;
import java.util.regex.Matcher;
import java.util.regex.Pattern;

/** README.md: its example gives the answers that stand behind it; it names all calls and errors. */
public final class ReadmeTest {
    private static final Check check = new Check();
    private static final Pattern WRITTEN = Pattern.compile("\"(\\w[^\"]*)\"\\.toCharArray\\(\\)");
    private static final Pattern ASKED =
            Pattern.compile("x\\.(\\w+)\\(([^)]*)\\); +// (-?\\d+|[A-Z_]+)\\b.*");

    public static void main(String[] args) throws IOException, ReflectiveOperationException {
        String readme = Files.readString(Path.of("README.md"));
        example(readme);
        callsAndErrors(readme);
        testsOfTheProject(readme);
        check.end();
    }

    private static void example(String readme) throws ReflectiveOperationException {
        String start = "```java\n";
        int from = readme.indexOf(start) + start.length();
        String code = readme.substring(from, readme.indexOf("```", from));
        DyckReachability x = new DyckReachability();
        int answers = 0;
        for (String line : code.split("\n")) {
            Matcher written = WRITTEN.matcher(line);
            Matcher asked = ASKED.matcher(line);
            if (written.find()) {
                Check.write(x, written.group(1));
            } else if (asked.matches()) {
                check.due(line, ask(x, asked.group(1), asked.group(2)), answer(asked.group(3)));
                answers++;
            } else {
                check.holds("no answer stands behind " + line, !line.contains("//"));
            }
        }
        check.holds("the example has answers", answers > 0);
    }

    private static long ask(DyckReachability x, String name, String written)
            throws ReflectiveOperationException {
        String[] values = written.isEmpty() ? new String[0] : written.split(", ");
        for (Method m : DyckReachability.class.getMethods()) {
            if (m.getName().equals(name) && m.getParameterCount() == values.length) {
                Object[] arguments = new Object[values.length];
                for (int i = 0; i < values.length; i++) {
                    boolean isLong = m.getParameterTypes()[i] == long.class;
                    // A number without L is an int in Java, whatever the parameter is.
                    int number = Integer.parseInt(values[i]);
                    arguments[i] = isLong ? (Object) Long.valueOf(number) : (Object) number;
                }
                return ((Number) m.invoke(x, arguments)).longValue();
            }
        }
        throw new NoSuchMethodException(name + "(" + written + ")");
    }

    private static long answer(String written) throws ReflectiveOperationException {
        return Character.isLetter(written.charAt(0))
                ? DyckReachability.class.getField(written).getInt(null)
                : Long.parseLong(written);
    }

    private static void callsAndErrors(String readme) throws ReflectiveOperationException {
        for (Method m : DyckReachability.class.getDeclaredMethods()) {
            if (Modifier.isPublic(m.getModifiers())) {
                check.holds("README.md names " + m.getName(),
                        readme.contains("`" + m.getName() + "`"));
            }
        }
        for (Field f : DyckReachability.class.getFields()) {
            Pattern row = Pattern.compile("\\| `" + f.getName() + "` *\\| " + f.getInt(null) + " ");
            check.holds("README.md tells " + f.getName(), row.matcher(readme).find());
        }
    }

    private static void testsOfTheProject(String readme) throws IOException {
        try (var files = Files.list(Path.of("src/test/java"))) {
            for (Path file : (Iterable<Path>) files::iterator) {
                String name = file.getFileName().toString().replace(".java", "");
                if (name.endsWith("Test")) {
                    check.holds("README.md names " + name, readme.contains("`" + name + "`"));
                }
            }
        }
    }
}
