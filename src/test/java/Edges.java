import java.io.IOException;
import java.nio.file.Files;
import java.nio.file.Path;
import java.util.LinkedHashMap;
import java.util.List;
import java.util.Map;
import java.util.function.Supplier;
import java.util.function.ToLongFunction;

/**
 * For tests that name the sentence of the document which they look at. The words must stand in the document, something
 * must be asked about them, and of the headings that a test is for no words may be left out.
 */
final class Edges extends Due {
    static final Class<IllegalArgumentException> ARGUMENT = IllegalArgumentException.class;
    static final Class<IllegalStateException> STATE = IllegalStateException.class;
    static final Class<UnsupportedOperationException> LIMIT = UnsupportedOperationException.class;
    static final Class<IndexOutOfBoundsException> INDEX = IndexOutOfBoundsException.class;

    private static final Path DOCUMENT = Path.of("../shared/DOC.md");

    private final Map<String, String> texts = new LinkedHashMap<>();
    private final Map<String, boolean[]> quoted = new LinkedHashMap<>();
    private String sentence = "";
    private int askedBefore;

    Edges(String... headings) {
        for (String heading : headings) {
            String text = textUnder(heading);
            texts.put(heading, text);
            quoted.put(heading, new boolean[text.length()]);
        }
    }

    /** Without the fences, and without the head of the method, which FaceTest looks at. */
    private static String textUnder(String heading) {
        String document;
        try {
            document = Files.readString(DOCUMENT);
        } catch (IOException e) {
            throw new IllegalStateException("the document can't be read", e);
        }
        for (String part : document.split("(?m)^## ")) {
            if (part.startsWith(heading + ":") || part.startsWith(heading + "\n")) {
                String text = part.substring(part.indexOf('\n')).replaceAll("```\\w*", "");
                return text.strip().replaceFirst("^`[^`]*`:", "").replaceAll("\\s+", " ");
            }
        }
        throw new IllegalStateException("no heading " + heading);
    }

    /** What is asked from here on is about these words under this heading. */
    void says(String heading, String words) {
        endSentence();
        sentence = heading + ", '" + words + "': ";
        String text = texts.get(heading);
        int at = text.indexOf(words);
        if (at < 0) {
            tell("the document does not say so");
        }
        while (at >= 0) {
            java.util.Arrays.fill(quoted.get(heading), at, at + words.length(), true);
            at = text.indexOf(words, at + 1);
        }
    }

    private void endSentence() {
        if (!sentence.isEmpty() && asked() == askedBefore) {
            tell("nothing was asked");
        }
        askedBefore = asked();
    }

    @Override
    void tell(String fault) {
        super.tell(sentence + fault);
    }

    /** The call throws, and afterwards the net answers all as one that was not asked. */
    void refused(String call, Class<? extends RuntimeException> want, Supplier<NetRoutes> made, ToLongFunction<NetRoutes> asking) {
        NetRoutes asked = made.get();
        NetRoutes quiet = made.get();
        throwing(call, want, () -> asking.applyAsLong(asked));
        same(call + " and then", Picture.of(quiet), Picture.of(asked));
        for (int cycles : new int[] {1, 30}) {
            goOn(asked, cycles);
            goOn(quiet, cycles);
            same(call + " and " + cycles + " cycles more, then", Picture.of(quiet), Picture.of(asked));
        }
    }

    private static void goOn(NetRoutes net, int cycles) {
        if (net.count(0) > 0 && net.count(2) < 400) {
            net.load(1);
        }
        net.run(cycles);
    }

    private void same(String when, List<String> want, List<String> got) {
        is(when + " answers", want.size(), got.size());
        for (int k = 0; k < want.size() && k < got.size(); k++) {
            is(when + " " + got.get(k) + ", due is " + want.get(k) + ": the same", true, got.get(k).equals(want.get(k)));
        }
    }

    @Override
    void end() {
        endSentence();
        sentence = "";
        texts.keySet().forEach(this::tellWhatIsLeftOut);
        super.end();
    }

    private void tellWhatIsLeftOut(String heading) {
        boolean[] seen = quoted.get(heading);
        StringBuilder rest = new StringBuilder();
        for (int k = 0; k < seen.length; k++) {
            rest.append(seen[k] ? '\n' : texts.get(heading).charAt(k));
        }
        for (String words : rest.toString().split("\n+")) {
            if (!words.replaceAll("\\b(and|or)\\b", "").replaceAll("\\W", "").isEmpty()) {
                super.tell(heading + ": no test for '" + words.strip() + "'");
            }
        }
    }
}
