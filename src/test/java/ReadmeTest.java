import java.io.IOException;
import java.lang.reflect.Method;
import java.nio.file.Files;
import java.nio.file.Path;
import java.util.List;
import java.util.regex.Matcher;
import java.util.regex.Pattern;
import java.util.stream.Collectors;
import java.util.stream.Stream;

/** README.md: its example answers as it says, and its tables have every call and every test. */
final class ReadmeTest {
    private static final Pattern MADE = Pattern.compile("NetRoutes net = new NetRoutes\\((-?\\d+)\\);.*");
    private static final Pattern CALL = Pattern.compile("net\\.(\\w+)\\(([-\\d, ]*)\\); // (-?\\w+).*");
    private static final Due due = new Due();

    public static void main(String[] args) throws IOException, ReflectiveOperationException {
        String text = Files.readString(Path.of("README.md"));
        example(text);
        calls(text);
        tests(text);
        due.is("how the tests are run", true, text.contains("```sh\n.ci/run\n```"));
        due.end();
    }

    private static void example(String text) throws ReflectiveOperationException {
        int begin = text.indexOf("```java\n") + "```java\n".length();
        NetRoutes net = null;
        for (String line : text.substring(begin, text.indexOf("```", begin)).split("\n")) {
            Matcher made = MADE.matcher(line);
            Matcher call = CALL.matcher(line);
            if (made.matches()) {
                net = new NetRoutes(Integer.parseInt(made.group(1)));
            } else if (net != null && call.matches()) {
                String got = String.valueOf(answer(net, call.group(1), call.group(2)));
                due.is("'" + line + "' answered " + got + ": as told", true, got.equals(call.group(3)));
            } else {
                due.tell("'" + line + "' is no call with its answer");
            }
        }
    }

    private static Object answer(NetRoutes net, String name, String written) throws ReflectiveOperationException {
        Integer[] values = Stream.of(written.split(", ")).filter(v -> !v.isEmpty()).map(Integer::valueOf).toArray(Integer[]::new);
        Class<?>[] types = Stream.of(values).map(v -> int.class).toArray(Class<?>[]::new);
        return NetRoutes.class.getMethod(name, types).invoke(net, (Object[]) values);
    }

    private static void calls(String text) {
        for (Method method : NetRoutes.class.getDeclaredMethods()) {
            if (java.lang.reflect.Modifier.isPublic(method.getModifiers())) {
                due.is(method.getName() + " in the table of calls", true, text.contains("\n| `" + method.getName() + "("));
            }
        }
    }

    private static void tests(String text) throws IOException {
        List<String> there;
        try (Stream<Path> files = Files.list(Path.of("src/test/java"))) {
            there = files.map(f -> f.getFileName().toString()).filter(f -> f.endsWith("Test.java"))
                .map(f -> f.replace(".java", "")).collect(Collectors.toList());
        }
        for (String test : there) {
            due.is(test + " in the table", true, text.contains("\n| `" + test + "` |"));
        }
        Matcher row = Pattern.compile("\n\\| `(\\w+Test)` \\|").matcher(text);
        while (row.find()) {
            due.is(row.group(1) + " of the table is there", true, there.contains(row.group(1)));
        }
    }
}
