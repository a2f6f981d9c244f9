import java.io.IOException;
import java.nio.file.Files;
import java.nio.file.Path;
import java.util.Arrays;
import java.util.LinkedHashMap;
import java.util.List;
import java.util.Map;
import java.util.Set;

/**
 * The document read over, sentence by sentence: each one that names a bound, an empty or a full desk, a tie or a refused
 * call has a test of its own in one of the classes named ...Edges. The sentences are quoted; this test looks them up in
 * the document, and that no term or promise is left out.
 */
public final class EdgeTest {
    private static final List<String> TERMS = List.of("I", "II", "III", "IV", "V", "VI", "VII", "VIII");

    // What no quote holds: headings, and what joins two quotes.
    private static final Set<String> BESIDE = Set.of("BOUNDS", "A PERSON", "A FACT of a PERSON", "PARAGRAPHS (texts",
        "TOKENS there", "REPORTS", "WEEK", "The constants", "and");

    private static final char QUOTED = '\u0001';

    public static void main(String[] args) throws IOException {
        Path shared = Path.of(args.length > 1 ? args[1] : "../shared");
        PeopleEdges.run();
        ParagraphEdges.run();
        DeathEdges.run();
        EditionEdges.run();
        WeekEdges.run();
        RefusalEdges.run();
        quotes(parts(Files.readString(shared.resolve("DOC.md"))));
        Check.end("EdgeTest");
    }

    /** The text of each term and each promise, by its number. */
    private static Map<String, String> parts(String document) {
        Map<String, String> parts = new LinkedHashMap<>();
        int from = document.indexOf("## Terms");
        for (int i = 0; i < TERMS.size(); i++) {
            String next = i + 1 < TERMS.size() ? "\n" + TERMS.get(i + 1) + ". " : "\nThe constants";
            int begin = document.indexOf("\n" + TERMS.get(i) + ". ", from);
            parts.put(TERMS.get(i), plain(document.substring(begin, document.indexOf(next, begin))));
        }
        int constants = document.indexOf("\nThe constants");
        parts.put("The constants", plain(document.substring(constants, document.indexOf("\n## ", constants))));
        for (int promise = 1; promise <= 50; promise++) {
            int begin = document.indexOf("\n## Promise " + promise + ":");
            int end = document.indexOf("\n## ", begin + 1);
            parts.put(String.valueOf(promise), plain(document.substring(begin, end)));
        }
        return parts;
    }

    private static String plain(String text) {
        return text.replaceAll("\\s+", " ");
    }

    private static void quotes(Map<String, String> parts) {
        List<Check.Sentence> all = List.copyOf(Check.sentences());
        Check.sentence("all", "the quotes");
        for (int i = 0; i < all.size(); i++) {
            Check.Sentence one = all.get(i);
            String part = parts.getOrDefault(one.from(), "");
            Check.due("quoted of " + one.from() + ": '" + one.words() + "'", part.contains(one.words()), true);
            int until = i + 1 < all.size() ? all.get(i + 1).askedAhead() : Check.asked();
            Check.due("'" + one.words() + "' has a test", until > one.askedAhead(), true);
        }
        for (String part : parts.keySet()) {
            Check.due("a sentence of " + part, all.stream().anyMatch(s -> s.from().equals(part)), true);
        }
        for (Map.Entry<String, String> part : parts.entrySet()) {
            nothingLeftOut(part.getKey(), part.getValue(), all);
        }
        System.out.println("EdgeTest: " + all.size() + " sentences");
    }

    /** Every word of a term or promise stands in some quote, but for headings and the faces of calls. */
    private static void nothingLeftOut(String from, String part, List<Check.Sentence> all) {
        char[] left = part.toCharArray();
        for (Check.Sentence one : all) {
            int at = one.from().equals(from) ? part.indexOf(one.words()) : -1;
            while (at >= 0) {
                Arrays.fill(left, at, at + one.words().length(), QUOTED);
                at = part.indexOf(one.words(), at + 1);
            }
        }
        String rest = new String(left).replaceAll("^ ## Promise [0-9]+: [^`]*`[^`]*`: |^ [IV]+\\. |```(text)?", "");
        for (String piece : rest.split(QUOTED + "+|Ahead of the calls .* the interface says: .*")) {
            String words = piece.replaceAll("^[ .,;:()]+|[ .,;:()]+$", "");
            Check.due(from + ": a sentence quotes '" + words + "'", words.isEmpty() || BESIDE.contains(words), true);
        }
    }
}
