import java.io.IOException;
import java.lang.reflect.Method;
import java.lang.reflect.Modifier;
import java.nio.file.Files;
import java.nio.file.Path;
import java.util.List;
import java.util.regex.Matcher;
import java.util.regex.Pattern;
import java.util.stream.Collectors;
import java.util.stream.Stream;

/**
 * What README.md says of the class: the calls of its examples are made as they stand there, and
 * answer what is written behind them; every call of the face and every test is named.
 */
public final class ReadmeTest {
    private static final Path ROOT = Path.of(System.getProperty("project.root", "."));
    private static final Pattern MAKES =
            Pattern.compile("PacketRows x = new PacketRows\\((\\d+), (\\d+)\\);.*");
    private static final Pattern CALL =
            Pattern.compile("x\\.(\\w+)\\(([^)]*)\\);\\s*// (?:= (-?\\d+))?.*");

    public static void main(String[] args) throws IOException, ReflectiveOperationException {
        String text = Files.readString(ROOT.resolve("README.md"));
        examples(text);
        callsAreNamed(text);
        testsAreNamed(text);
        Check.end();
    }

    private static void examples(String text) throws ReflectiveOperationException {
        boolean inside = false;
        int examples = 0;
        PacketRows x = null;
        for (String line : text.split("\n")) {
            if (line.startsWith("```")) {
                inside = line.equals("```java");
                examples += inside ? 1 : 0;
                x = null;
                continue;
            }
            if (!inside) {
                continue;
            }
            Matcher makes = MAKES.matcher(line);
            if (makes.matches()) {
                x = new PacketRows(Integer.parseInt(makes.group(1)),
                        Integer.parseInt(makes.group(2)));
            } else {
                exampleCall(x, line);
            }
        }
        Check.due("examples in README.md", examples, 3);
    }

    private static void exampleCall(PacketRows x, String line)
            throws ReflectiveOperationException {
        Matcher call = CALL.matcher(line);
        boolean readable = x != null && call.matches();
        Check.due("README.md, a call that can be made: " + line, readable ? 1 : 0, 1);
        if (!readable) {
            return;
        }
        Method method = methodOf(call.group(1));
        String list = call.group(2);
        String[] words = list.isEmpty() ? new String[0] : list.split(", ");
        Object[] values = new Object[words.length];
        for (int i = 0; i < words.length; i++) {
            values[i] = valueOf(words[i], method.getParameterTypes()[i]);
        }
        Object answer = method.invoke(x, values);
        Check.due("README.md, with an answer or void: " + line,
                (answer == null) == (call.group(3) == null) ? 1 : 0, 1);
        if (answer != null && call.group(3) != null) {
            Check.due("README.md: " + line, (Integer) answer, Integer.parseInt(call.group(3)));
        }
    }

    private static Method methodOf(String name) {
        for (Method method : face()) {
            if (method.getName().equals(name)) {
                return method;
            }
        }
        throw new IllegalStateException("README.md calls " + name + ", which is not of the face");
    }

    private static List<Method> face() {
        return Stream.of(PacketRows.class.getDeclaredMethods())
                .filter(method -> Modifier.isPublic(method.getModifiers()))
                .collect(Collectors.toList());
    }

    private static Object valueOf(String word, Class<?> type) {
        String number = word.endsWith("L") ? word.substring(0, word.length() - 1) : word;
        if (type == long.class) {
            return Long.decode(number);
        }
        return Integer.decode(number);
    }

    /** Each call has a row of its own in the table of all calls. */
    private static void callsAreNamed(String text) {
        for (Method method : face()) {
            Check.due("README.md has a row for " + method.getName(),
                    text.contains("\n| `" + method.getName() + "(") ? 1 : 0, 1);
        }
        Check.due("README.md has a row for the constructor",
                text.contains("\n| `new PacketRows(layers, levels)`") ? 1 : 0, 1);
    }

    private static void testsAreNamed(String text) throws IOException {
        Check.due("README.md says how to run the tests", text.contains("\n.ci/run\n") ? 1 : 0, 1);
        try (Stream<Path> files = Files.list(ROOT.resolve("src/test/java"))) {
            for (Path file : files.collect(Collectors.toList())) {
                String name = file.getFileName().toString().replace(".java", "");
                if (name.endsWith("Test")) {
                    Check.due("README.md has a row for " + name,
                            text.contains("\n| `" + name + "` |") ? 1 : 0, 1);
                }
            }
        }
    }
}
