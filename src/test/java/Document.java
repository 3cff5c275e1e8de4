import java.io.IOException;
import java.nio.file.Files;
import java.nio.file.Path;
import java.util.BitSet;
import java.util.LinkedHashMap;
import java.util.Map;

/**
 * The document, section by section. A test names the sentence for which it stands; the sentence has to be
 * there word for word, something has to be compared for it ahead of the next one, and in the end none may be left that
 * no test has named.
 */
final class Document {
    private static final Path PLACE = Path.of("../shared/DOC.md");

    private static final int NOTHING_NAMED = -1;
    private static final Map<String, StringBuilder> texts = new LinkedHashMap<>();
    private static final Map<String, BitSet> named = new LinkedHashMap<>();
    private static String heading = "";
    private static int comparedBefore = NOTHING_NAMED;

    private Document() {
    }

    /** Without the document the tests run all the same, but their sentences are not looked up. */
    static void read() throws IOException {
        if (!Files.isReadable(PLACE)) {
            System.out.println(PLACE + " is not there: no sentence is looked up");
            return;
        }
        boolean isCode = false;
        for (String line : Files.readAllLines(PLACE)) {
            if (line.startsWith("```")) {
                isCode = !isCode;
            } else if (!isCode && line.startsWith("#")) {
                heading = line.trim();
                texts.put(heading, new StringBuilder());
                named.put(heading, new BitSet());
            } else if (!isCode && texts.containsKey(heading)) {
                texts.get(heading).append(withoutSignature(line.trim())).append(' ');
            }
        }
    }

    /** FaceTest looks at the signature that stands ahead of what a promise says. */
    private static String withoutSignature(String line) {
        return heading.startsWith("## Promise") ? line.replaceFirst("^`[^`]*\\)[^`]*`: ", "") : line;
    }

    static void section(String newHeading) {
        wasCompared();
        heading = newHeading;
        Due.part(heading);
        Due.isTrue("the document has this section", texts.isEmpty() || texts.containsKey(heading));
    }

    /** Names a sentence of the section; what is compared from here on stands for it. */
    static void says(String sentence) {
        wasCompared();
        Due.part(heading + ": " + sentence);
        Due.isTrue("the document says so, and no other test stands for it", texts.isEmpty() || mark(sentence));
        comparedBefore = Due.compared();
    }

    /** Marks the first place of the section at which a sentence stands that is not marked yet; false, if there is none. */
    private static boolean mark(String sentence) {
        if (!texts.containsKey(heading)) {
            return false;
        }
        BitSet marks = named.get(heading);
        int start = texts.get(heading).indexOf(sentence);
        while (start >= 0 && marks.get(start)) {
            start = texts.get(heading).indexOf(sentence, start + 1);
        }
        if (start >= 0) {
            marks.set(start, start + sentence.length());
        }
        return start >= 0;
    }

    /** Complains if nothing was compared for the sentence that was named last. */
    private static void wasCompared() {
        if (comparedBefore != NOTHING_NAMED) {
            Due.isTrue("something is compared for it", Due.compared() > comparedBefore);
        }
        comparedBefore = NOTHING_NAMED;
    }

    /** Complains of each sentence that no test has named, but for those of some sections. */
    static void end(String... leftOut) {
        wasCompared();
        for (String left : leftOut) {
            texts.remove(left);
        }
        for (Map.Entry<String, StringBuilder> entry : texts.entrySet()) {
            BitSet marks = named.get(entry.getKey());
            StringBuilder rest = new StringBuilder();
            for (int i = 0; i < entry.getValue().length(); i++) {
                rest.append(marks.get(i) ? ' ' : entry.getValue().charAt(i));
            }
            String unnamed = rest.toString().replaceAll("\\s+", " ").trim();
            Due.part(entry.getKey());
            Due.isTrue("named by a test: '" + unnamed + "'", !unnamed.matches(".*\\w.*"));
        }
    }
}
