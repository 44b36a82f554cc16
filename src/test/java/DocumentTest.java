import java.io.IOException;
import java.nio.file.Files;
import java.nio.file.Path;
import java.util.LinkedHashMap;
import java.util.Map;
import java.util.regex.Matcher;
import java.util.regex.Pattern;

/** Every sentence test's name stands in the document, and every word of its promises stands in such a name. */
public final class DocumentTest extends Sentences {
    private static final Path DOCUMENT = Path.of("../shared/DOC.md");
    private static final Pattern HEADING = Pattern.compile("## (Promise \\d+|[^:\\n]+).*|=+ (\\d [A-Z]+)");

    public static void main(String[] args) throws IOException {
        if (!Files.exists(DOCUMENT)) {
            System.out.println("there is no document to compare with");
            return;
        }
        SentencesOfTermsTest.tell();
        SentencesOfWrittenTest.tell();
        SentencesOfReadTest.tell();
        SentencesOfPromises1To9Test.tell();
        SentencesOfPromises10To16Test.tell();
        SentencesOfPromises17To25Test.tell();
        compare(parts(Files.readString(DOCUMENT)));
        Run.finish();
    }

    /** The document's text by its parts, without the signatures, each run of blanks as one. */
    private static Map<String, String> parts(String document) {
        Map<String, String> parts = new LinkedHashMap<>();
        String part = "";
        for (String line : document.split("\n")) {
            Matcher heading = HEADING.matcher(line);
            if (heading.matches()) {
                part = heading.group(1) != null ? heading.group(1) : heading.group(2);
            } else if (!line.startsWith("```")) {
                String text = line.replaceFirst("^`[^`]*`: ?", "").replaceAll("\\s+", " ");
                parts.merge(part, text, (a, b) -> a + " " + b.strip());
            }
        }
        return parts;
    }

    private static void compare(Map<String, String> parts) {
        Map<String, boolean[]> named = new LinkedHashMap<>();
        parts.forEach((part, text) -> named.put(part, new boolean[text.length()]));
        for (Sentence sentence : told()) {
            String text = parts.getOrDefault(sentence.part(), "");
            Run.same(sentence.title() + " stands in the document", mark(sentence, text, named), true);
        }
        for (String part : parts.keySet()) {
            if (part.equals("Terms") || part.matches("\\d [A-Z]+|Promise \\d+")) {
                Run.same("words of " + part + " that no test's name has", rest(parts.get(part), named.get(part)), "");
            }
        }
    }

    /** Marks each piece of a sentence where it first stands behind the piece before. */
    private static boolean mark(Sentence sentence, String text, Map<String, boolean[]> named) {
        int from = 0;
        for (String piece : sentence.words().split(" \\[\\.\\.] ")) {
            int at = text.indexOf(piece, from);
            if (at < 0) {
                return false;
            }
            from = at + piece.length();
            java.util.Arrays.fill(named.get(sentence.part()), at, from, true);
        }
        return true;
    }

    private static String rest(String text, boolean[] named) {
        StringBuilder rest = new StringBuilder();
        for (int i = 0; i < text.length(); i++) {
            rest.append(named[i] ? '|' : text.charAt(i));
        }
        return rest.toString().replaceAll("\\|[^A-Za-z0-9]*(?=\\||$)", "|").replaceAll("\\|+", "|")
                .replaceAll("^[^A-Za-z0-9]*\\|?$", "");
    }
}
