import java.io.IOException;
import java.lang.reflect.Constructor;
import java.lang.reflect.Field;
import java.lang.reflect.Method;
import java.lang.reflect.Modifier;
import java.nio.file.Files;
import java.nio.file.Path;
import java.util.Arrays;
import java.util.Set;
import java.util.TreeSet;

/** The public face, and the rules of LANGUAGE.md that can be seen without a compiler. */
public final class FaceTest {
    private static final String[] FACE = {
        "int component()", "int grid(int, int, int, int, int)",
        "int choose(int, int, int, int, int)", "void passes(int, int, int)", "void zero(int)",
        "int part(int, int, int, int)", "int whole()", "int packets()", "int packet(int, int)",
        "int write()", "int feed(int, long)", "int wipe()", "int byteAt(int)", "int read()",
        "int got(int, int)", "int told(int)"
    };
    private static final String[] FORBIDDEN = {
        "catch", "finally", "synchronized", "assert", "->", "::", "package ", "static {",
        "protected", "Exact", "System.out", "Random", "NaN"
    };

    public static void main(String[] args) throws IOException {
        methods();
        exceptionsAreNamed();
        membersAreHidden();
        namesAreNotShared();
        source();
        Check.end();
    }

    private static void methods() {
        Set<String> want = new TreeSet<>(Set.of(FACE));
        Set<String> got = new TreeSet<>();
        for (Method m : PacketRows.class.getDeclaredMethods()) {
            if (Modifier.isPublic(m.getModifiers())) {
                StringBuilder text = new StringBuilder(m.getReturnType() + " " + m.getName() + "(");
                for (Class<?> type : m.getParameterTypes()) {
                    text.append(text.charAt(text.length() - 1) == '(' ? "" : ", ").append(type);
                }
                got.add(text.append(')').toString());
            }
        }
        Check.due("the face is " + got, got.equals(want) ? 1 : 0, 1);
        int modifiers = PacketRows.class.getModifiers();
        Check.due("public and final", modifiers, Modifier.PUBLIC | Modifier.FINAL);
    }

    /** The face names its exceptions behind throws, in the document's order. */
    private static void exceptionsAreNamed() {
        Set<String> bounds = Set.of("choose", "packet", "got", "told");
        Set<String> illegal = Set.of("zero", "part", "feed");
        Set<String> both = Set.of("grid", "passes");
        for (Method m : PacketRows.class.getDeclaredMethods()) {
            if (!Modifier.isPublic(m.getModifiers())) {
                continue;
            }
            String name = m.getName();
            String want = bounds.contains(name) ? "[class java.lang.IndexOutOfBoundsException]"
                    : illegal.contains(name) ? "[class java.lang.IllegalArgumentException]"
                    : both.contains(name) ? "[class java.lang.IndexOutOfBoundsException, "
                    + "class java.lang.IllegalArgumentException]" : "[]";
            String got = Arrays.toString(m.getExceptionTypes());
            Check.due(name + " throws " + got, got.equals(want) ? 1 : 0, 1);
        }
    }

    private static void membersAreHidden() {
        for (Method m : PacketRows.class.getDeclaredMethods()) {
            hidden("method " + m.getName(), m.getModifiers(), Modifier.PUBLIC);
        }
        for (Field f : PacketRows.class.getDeclaredFields()) {
            boolean none = f.getName().equals("NONE");
            hidden("field " + f.getName(), f.getModifiers(), none ? Modifier.PUBLIC : 0);
            if (Modifier.isStatic(f.getModifiers())) {
                Check.due("final " + f.getName(), f.getModifiers() & Modifier.FINAL, Modifier.FINAL);
            }
        }
        for (Constructor<?> c : PacketRows.class.getDeclaredConstructors()) {
            Check.due("constructor", c.getModifiers(), Modifier.PUBLIC);
            Check.due("constructor's parameters", c.getParameterCount(), 2);
        }
        for (Class<?> c : PacketRows.class.getDeclaredClasses()) {
            hidden("class " + c.getName(), c.getModifiers(), 0);
            Check.due("static " + c.getName(), c.getModifiers() & Modifier.STATIC, Modifier.STATIC);
        }
        Check.due("twelve classes at most", PacketRows.class.getDeclaredClasses().length < 12 ? 1 : 0, 1);
    }

    private static void hidden(String what, int modifiers, int allowed) {
        int open = modifiers & (Modifier.PUBLIC | Modifier.PROTECTED | Modifier.PRIVATE);
        Check.due(what + " is private", open == Modifier.PRIVATE || open == allowed && open != 0 ? 1 : 0, 1);
    }

    private static void namesAreNotShared() {
        Set<String> face = new TreeSet<>();
        for (String method : FACE) {
            face.add(method.substring(method.indexOf(' ') + 1, method.indexOf('(')));
        }
        for (Method m : PacketRows.class.getDeclaredMethods()) {
            boolean open = Modifier.isPublic(m.getModifiers());
            Check.due("name " + m.getName(), !open && face.contains(m.getName()) ? 1 : 0, 0);
        }
        for (Class<?> c : PacketRows.class.getDeclaredClasses()) {
            for (Method m : c.getDeclaredMethods()) {
                Check.due("name " + m.getName(), face.contains(m.getName()) ? 1 : 0, 0);
                Check.due("parameters of " + m.getName(), m.getParameterCount() <= 7 ? 1 : 0, 1);
            }
        }
    }

    private static void source() throws IOException {
        Path root = Path.of(System.getProperty("project.root", "."));
        String text = Files.readString(root.resolve("src/main/java/PacketRows.java"));
        for (String word : FORBIDDEN) {
            Check.due("the source has " + word, text.contains(word) ? 1 : 0, 0);
        }
        for (String line : text.split("\n")) {
            if (line.startsWith("import")) {
                Check.due(line, line.equals("import java.util.Arrays;") ? 1 : 0, 1);
            }
            if (line.contains("throw new")) {
                boolean named = line.contains("new IndexOutOfBoundsException(\"")
                        || line.contains("new IllegalArgumentException(\"");
                Check.due(line, named ? 1 : 0, 1);
            }
        }
    }
}
