import java.io.IOException;
import java.nio.file.Files;
import java.nio.file.Path;
import java.util.LinkedHashMap;
import java.util.Map;
import java.util.regex.Matcher;
import java.util.regex.Pattern;

/** What of LANGUAGE.md a look at the lines of the source can tell; each method says which rules it looks at. */
final class LanguageTest {
    private static final Path SOURCE = Path.of("src/main/java/NetRoutes.java");
    private static final Pattern METHOD = Pattern.compile("(    |        )(?:[\\w\\[\\]]+ )*(\\w+)\\(([^)]*)\\)[^;]*\\{");
    private static final int MOST_LINES = 60;
    private static final int MOST_PARAMETERS = 7;
    private static final int MOST_CLASSES = 12;
    private static final int DEEPEST = 8;

    private static final Due due = new Due();
    private static String source;
    private static String[] lines;
    /** By a method's name: its lines, with those of all others of this name. */
    private static final Map<String, String> bodies = new LinkedHashMap<>();

    public static void main(String[] args) throws IOException {
        source = Files.readString(SOURCE).replaceAll("(?s)/\\*\\*.*?\\*/|//[^\n]*", "").replaceAll("\\)\\s+throws", ") throws");
        lines = source.split("\n");
        words();
        library();
        exceptions();
        loops();
        sizes();
        depth();
        objects();
        due.end();
    }

    /** Rules 2, 3, 5, 6, 10, 13 and the first lines. */
    private static void words() {
        String[] barred = {"->", "::", "\\bcatch\\b", "\\btry\\b", "\\bfinally\\b", "\\bsynchronized\\b", "\\bassert\\b", "\\bpackage\\b",
            "static \\{", "\\bdouble\\b", "\\bfloat\\b", "\\bInteger\\b", "\\bString\\b", "\\bObject\\b", "\\bThread\\b", "\\bRandom\\b",
            "\\[\\]\\[\\]", "\\bequals\\b", "\\bhashCode\\b", "\\btoString\\b", "\\binstanceof\\b", "\" \\+", "\\+ \"", "[^\\x00-\\x7f]"};
        for (String word : barred) {
            due.is("'" + word + "' in the source", false, Pattern.compile(word).matcher(source).find());
        }
        for (String line : lines) {
            if (line.contains(" static ") && !line.contains(" class ")) {
                due.is(line + " is a constant", true, line.matches("    (public|private) static final int [A-Z_]+ = [-\\w *]+;"));
            }
        }
    }

    /** Rule 4: of the library only Arrays.fill is used. */
    private static void library() {
        for (String line : lines) {
            if (line.startsWith("import ")) {
                due.is(line, true, line.equals("import java.util.Arrays;"));
            } else {
                Matcher name = Pattern.compile("\\b([A-Z][a-z]\\w*)\\.(\\w+)").matcher(line);
                while (name.find()) {
                    due.is(line, true, name.group().equals("Arrays.fill"));
                }
            }
        }
    }

    /** Rule 6: only what the document names is thrown, with a written text, and never in a constructor or inside a class. */
    private static void exceptions() {
        for (String line : lines) {
            if (line.contains("throw ")) {
                due.is(line, true, line.matches(" {12}throw new (IllegalArgument|IllegalState|IndexOutOfBounds|UnsupportedOperation)"
                    + "Exception\\(\"[^\"]*\"\\);| {16}throw new IndexOutOfBoundsException\\(\"[^\"]*\"\\);"));
            }
        }
        due.is("throws inside a class", false, source.substring(source.indexOf("static final class")).contains("throw "));
    }

    /** Rule 9: every loop counts a number up to a bound. */
    private static void loops() {
        for (String line : lines) {
            due.is(line, false, line.matches(".*\\b(while|do)\\b.*"));
            if (line.contains("for (")) {
                due.is(line, true, line.matches("\\s+for \\(int (\\w+) = \\w+; \\1 <=? [^;]+; \\1\\+\\+\\) \\{"));
            }
        }
    }

    /** Rule 11: short methods with few parameters, few classes; FaceTest counts the fields. */
    private static void sizes() {
        int classes = 0;
        for (int k = 0; k < lines.length; k++) {
            classes += lines[k].contains(" class ") ? 1 : 0;
            Matcher method = METHOD.matcher(lines[k]);
            if (method.matches()) {
                int end = k;
                while (!lines[end].equals(method.group(1) + "}")) {
                    bodies.merge(method.group(2), end > k ? lines[end] + "\n" : "", String::concat);
                    end++;
                }
                due.is(method.group(2) + " is short", true, end - k < MOST_LINES);
                due.is(method.group(2) + " has few parameters", true, method.group(3).split(",").length <= MOST_PARAMETERS);
            }
        }
        due.is("few classes", true, classes <= MOST_CLASSES);
        due.is("methods were found", true, bodies.containsKey("run") && bodies.containsKey("lowestThatCloses"));
    }

    /** Rules 8 and 11: nothing calls itself, also not by others, and calls go at most eight deep. */
    private static void depth() {
        for (String name : bodies.keySet()) {
            due.is("calls below " + name + " go eight deep at most", true, depthOf(name, 1) <= DEEPEST);
        }
    }

    private static int depthOf(String name, int above) {
        if (above > DEEPEST) {
            return above;
        }
        int deepest = above;
        Matcher call = Pattern.compile("\\b(\\w+)\\(").matcher(bodies.get(name));
        while (call.find()) {
            if (bodies.containsKey(call.group(1))) {
                deepest = Math.max(deepest, depthOf(call.group(1), above + 1));
            }
        }
        return deepest;
    }

    /** Rule 12, and one room for all calls: rows and objects are made in constructors alone. */
    private static void objects() {
        for (String line : lines) {
            if (line.contains("new ") && !line.contains("throw new ")) {
                due.is(line, true, line.matches("        final int\\[\\] \\w+ = new int\\[[A-Z_ +*]+\\];")
                    || line.matches("        final boolean\\[\\] \\w+ = new boolean\\[[A-Z_]+\\];")
                    || bodies.get("NetRoutes").contains(line));
            }
        }
    }
}
