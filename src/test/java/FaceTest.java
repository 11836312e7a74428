import java.io.IOException;
import java.lang.reflect.Constructor;
import java.lang.reflect.Field;
import java.lang.reflect.Method;
import java.lang.reflect.Modifier;
import java.nio.file.Files;
import java.nio.file.Path;
import java.util.Set;
import java.util.TreeSet;

/** The public face of the document, and nothing beside it. */
final class FaceTest {
    private static final Path SOURCE = Path.of("src/main/java/NetRoutes.java");
    private static final Due due = new Due();

    public static void main(String[] args) throws IOException {
        face();
        asInTheDocument();
        nothingElse();
        due.end();
    }

    private static void face() {
        Set<String> want = new TreeSet<>(Set.of("int node()", "int link(int,int,int)", "int route(int,int,int)",
            "int routes(int)", "int fail(int)", "int send(int,int,int)", "int load(int)", "int run(int)",
            "int packet(int,int)", "int channel(int,int)"));
        want.addAll(Set.of("int ring()", "int ringAt(int)", "boolean stuck()", "int count(int)"));
        Set<String> got = new TreeSet<>();
        for (Method m : NetRoutes.class.getDeclaredMethods()) {
            if (Modifier.isPublic(m.getModifiers())) {
                StringBuilder text = new StringBuilder();
                for (Class<?> type : m.getParameterTypes()) {
                    text.append(text.length() == 0 ? "" : ",").append(type);
                }
                got.add(m.getReturnType() + " " + m.getName() + "(" + text + ")");
            }
        }
        if (!got.equals(want)) {
            due.tell("public methods are " + got + ", due are " + want);
        }
        int modifiers = NetRoutes.class.getModifiers();
        due.is("public", true, Modifier.isPublic(modifiers));
        due.is("final", true, Modifier.isFinal(modifiers));
        Constructor<?>[] made = NetRoutes.class.getDeclaredConstructors();
        due.is("constructors", 1, made.length);
        due.is("a public one", true, Modifier.isPublic(made[0].getModifiers()));
    }

    /** Every line of the document's face stands in the source, with its parameters' names and its exceptions. */
    private static void asInTheDocument() throws IOException {
        String document = Files.readString(Path.of("../shared/DOC.md"));
        int begin = document.indexOf("```java") + "```java".length();
        String source = textOf(Files.readString(SOURCE));
        for (String line : document.substring(begin, document.indexOf("```", begin)).split("\n")) {
            String head = textOf(line.replace(";", ""));
            if (!head.isEmpty()) {
                due.is("'" + head + "' in the source", true, source.contains(head));
            }
        }
    }

    private static String textOf(String lines) {
        return lines.replaceAll("\\s+", " ").strip();
    }

    private static void nothingElse() {
        Set<String> names = new TreeSet<>();
        for (Method m : NetRoutes.class.getDeclaredMethods()) {
            if (!m.isSynthetic()) {
                due.is(m.getName() + " is public or private", true, (m.getModifiers() & (Modifier.PUBLIC | Modifier.PRIVATE)) != 0);
                due.is(m.getName() + " stands once", true, names.add(m.getName()));
            }
        }
        for (Field f : NetRoutes.class.getDeclaredFields()) {
            int modifiers = f.getModifiers();
            due.is(f.getName() + " is private", !f.getName().equals("NONE"), Modifier.isPrivate(modifiers));
            due.is(f.getName() + " is a constant or of the object", true, !Modifier.isStatic(modifiers) || Modifier.isFinal(modifiers));
        }
        for (Class<?> inside : NetRoutes.class.getDeclaredClasses()) {
            due.is(inside.getName() + " is static", true, Modifier.isStatic(inside.getModifiers()));
            due.is(inside.getName() + " has few fields", true, inside.getDeclaredFields().length <= 20);
        }
    }
}
