import java.io.IOException;
import java.lang.reflect.InvocationTargetException;
import java.lang.reflect.Method;
import java.nio.file.Files;
import java.nio.file.Path;
import java.util.Set;
import java.util.TreeSet;
import java.util.regex.Matcher;
import java.util.regex.Pattern;

/** The example of README.md, line by line: each call answers what is written behind it. */
public final class ReadmeTest {
    private static final String FIRST_LINE = "HiddenFacts x = new HiddenFacts();";
    private static final Pattern CALL = Pattern.compile("x\\.(\\w+)\\(([^)]*)\\); +// (-?\\w+): .+");
    private static final Checks checks = new Checks();

    public static void main(String[] args) throws IOException, ReflectiveOperationException {
        String text = Files.readString(Path.of("README.md"));
        String example = text.split("```java\n", 2)[1].split("```", 2)[0];
        String[] lines = example.split("\n");
        checks.due("the first line", lines[0], FIRST_LINE);
        HiddenFacts x = new HiddenFacts();
        Set<String> shown = new TreeSet<>();
        for (int k = 1; k < lines.length; k++) {
            Matcher line = CALL.matcher(lines[k]);
            if (line.matches()) {
                shown.add(line.group(1));
                checks.due(lines[k], answer(x, line.group(1), line.group(2)), line.group(3));
            } else {
                checks.due("a line of the example", lines[k], "a call and its answer");
            }
        }
        checks.due("the methods that the example shows", shown.toString(), faceNames().toString());
        checks.end();
    }

    private static Set<String> faceNames() {
        Set<String> names = new TreeSet<>();
        for (Method method : HiddenFacts.class.getMethods()) {
            if (method.getDeclaringClass() == HiddenFacts.class) {
                names.add(method.getName());
            }
        }
        return names;
    }

    private static String answer(HiddenFacts x, String name, String written) throws ReflectiveOperationException {
        String[] words = written.isEmpty() ? new String[0] : written.split(", ");
        for (Method method : HiddenFacts.class.getMethods()) {
            if (method.getName().equals(name) && method.getParameterCount() == words.length) {
                try {
                    return String.valueOf(method.invoke(x, values(words)));
                } catch (InvocationTargetException thrown) {
                    return thrown.getCause().getClass().getSimpleName();
                }
            }
        }
        return "no such method";
    }

    private static Object[] values(String[] words) {
        Object[] values = new Object[words.length];
        for (int k = 0; k < words.length; k++) {
            values[k] = switch (words[k]) {
                case "true", "false" -> Boolean.valueOf(words[k]);
                case "HiddenFacts.NONE" -> HiddenFacts.NONE;
                default -> Integer.valueOf(words[k]);
            };
        }
        return values;
    }
}
