import java.io.IOException;
import java.nio.file.Files;
import java.nio.file.Path;
import java.util.List;
import java.util.regex.Matcher;
import java.util.regex.Pattern;
import java.util.stream.Stream;

/**
 * The words that the tests quote stand in the document, and no sentence of its Terms and no promise is
 * without a test that quotes some of it.
 */
public final class QuotesTest {
    private static final Pattern QUOTE = Pattern.compile("\\bsentence\\(\"([^\"]+)\"\\)");
    private static final Path TESTS = Path.of("src/test/java");

    private static final Due due = new Due();

    public static void main(String[] args) throws IOException {
        String document = Files.readString(Path.of("../shared/DOC.md"));
        List<String> quotes = quotes();
        due.is("there are quotes", quotes.size() > 100 ? 1 : 0, 1);
        for (String quote : quotes) {
            due.is("the document says: " + quote, document.contains(quote) ? 1 : 0, 1);
        }
        for (String section : document.split("\n## ")) {
            if (section.startsWith("Terms") || section.startsWith("Promise ")) {
                everySentenceIsQuoted(section, quotes);
            }
        }
        due.end();
    }

    private static List<String> quotes() throws IOException {
        try (Stream<Path> files = Files.list(TESTS)) {
            StringBuilder all = new StringBuilder();
            for (Path file : files.filter(path -> path.toString().endsWith("Test.java")).toList()) {
                all.append(Files.readString(file));
            }
            Matcher quote = QUOTE.matcher(all);
            return quote.results().map(found -> found.group(1)).toList();
        }
    }

    /** A promise is one piece, since its sentences are short; of the Terms each sentence is one. */
    private static void everySentenceIsQuoted(String section, List<String> quotes) {
        boolean terms = section.startsWith("Terms");
        String[] pieces = terms ? section.substring("Terms".length()).split("(?<=[^.])\\.(?=\\s)") : new String[] {section};
        for (String piece : pieces) {
            if (!piece.isBlank()) {
                due.is("a test quotes: " + piece.strip(), quotes.stream().anyMatch(piece::contains) ? 1 : 0, 1);
            }
        }
    }
}
