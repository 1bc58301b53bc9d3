import java.nio.charset.StandardCharsets;
import java.nio.file.Files;
import java.nio.file.Path;
import java.util.ArrayList;
import java.util.LinkedHashMap;
import java.util.List;
import java.util.Map;
import java.util.Set;
import java.util.TreeSet;

/**
 * The places of the document. A boundary test names the sentence that it holds; the sentence is
 * looked for in the document, and at the end no sentence may be left that no test has named.
 */
final class Place {
    // What names no boundary: the numbers behind these are held by the tests of other sentences.
    private static final Set<String> PLAIN = Set.of(
        "what later calls answer is free",
        "A document can be deleted",
        "A reading goes on in steps",
        "Errors are reported by the constants below",
        "Bribes the clerk of a list", "Sets the weight of a list", "Deletes a document",
        "Sets how many documents the question wants", "Drops an entry of a list",
        "- `list`: a list", "- `document`: a document", "- `looksUp`: whether it looks up",
        "Returns the number", "Returns the document");
    private static final Set<String> PLAIN_SECTIONS = Set.of("", "The public face", "Not promised");
    private static final List<String> PLAIN_BEGINNINGS = List.of(
        "An office of lists in which clerks", "Ahead of the calls");

    private static final Map<String, List<String>> PIECES = new LinkedHashMap<>();
    private static final Map<String, Set<String>> NAMED = new LinkedHashMap<>();

    private Place() {
    }

    static void load(String file) throws Exception {
        String section = "";
        boolean inTerms = false;
        for (String line : Files.readAllLines(Path.of(file), StandardCharsets.UTF_8)) {
            String text = line.strip();
            if (text.startsWith("## ")) {
                section = text.substring(3).replaceAll("^(Promise \\d+):.*", "$1");
                inTerms = section.equals("Terms");
            } else if (inTerms && text.matches("[A-Z ]+")) {
                section = text;
            } else {
                PIECES.computeIfAbsent(section, name -> new ArrayList<>()).addAll(piecesOf(text));
            }
        }
    }

    /** A piece ends with a full stop or a semicolon; the head of a promise's line is left out. */
    private static List<String> piecesOf(String line) {
        List<String> pieces = new ArrayList<>();
        for (String piece : line.replaceFirst("^`\\w+ ?\\w*\\([^`]*\\)`: ", "").split("[.;](\\s+|$)")) {
            if (!piece.isEmpty()) {
                pieces.add(piece);
            }
        }
        return pieces;
    }

    /** Names the sentence that the checks behind this call hold. */
    static void in(String section, String quote) {
        Check.promise(section + ", \"" + quote + "\"");
        int found = 0;
        for (String piece : PIECES.getOrDefault(section, List.of())) {
            if (piece.contains(quote)) {
                NAMED.computeIfAbsent(section, name -> new TreeSet<>()).add(piece);
                found++;
            }
        }
        Check.due("pieces of the document with this place", found, 1);
    }

    static void allNamed() {
        Check.promise("each sentence of the document has a test");
        Check.holds("the document was read", PIECES.size() > 28);
        for (String section : PIECES.keySet()) {
            Set<String> named = NAMED.getOrDefault(section, Set.of());
            for (String piece : PIECES.get(section)) {
                Check.holds(section + " has no test of: " + piece,
                    named.contains(piece) || isPlain(section, piece));
            }
        }
    }

    private static boolean isPlain(String section, String piece) {
        return PLAIN_SECTIONS.contains(section) || PLAIN.contains(piece)
            || PLAIN_BEGINNINGS.stream().anyMatch(piece::startsWith);
    }
}
