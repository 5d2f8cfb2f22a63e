import java.io.IOException;
import java.nio.file.DirectoryStream;
import java.nio.file.Files;
import java.nio.file.Path;
import java.util.Set;
import java.util.TreeSet;
import java.util.regex.Matcher;
import java.util.regex.Pattern;

/** What the boundary tests quote stands in the document, and they quote each of its exceptions. */
public final class SentencesTest {
    private static final Path DOCUMENT = Path.of("../shared/DOC.md");
    private static final Path TESTS = Path.of("src/test/java");
    private static final Pattern WORDS = Pattern.compile("\"([^\"]*)\"");
    private static final Pattern QUOTE = Pattern.compile("Due\\.sentence\\(((?:[\\s+]*\"[^\"]*\")+)\\);");

    public static void main(String[] args) throws IOException {
        String document = Files.readString(DOCUMENT);
        Set<String> quotes = quotes();
        if (quotes.isEmpty()) {
            Due.tell("no boundary test quotes the document");
        }
        for (String quote : quotes) {
            if (!document.contains(quote)) {
                Due.tell("not in the document: " + quote);
            }
        }
        for (String line : document.split("\n")) {
            if (line.startsWith("Throws ") && quotes.stream().noneMatch(line::contains)) {
                Due.tell("no boundary test quotes: " + line);
            }
        }
        Due.end();
    }

    private static Set<String> quotes() throws IOException {
        Set<String> quotes = new TreeSet<>();
        try (DirectoryStream<Path> files = Files.newDirectoryStream(TESTS, "*BoundaryTest.java")) {
            for (Path file : files) {
                Matcher quote = QUOTE.matcher(Files.readString(file));
                while (quote.find()) {
                    quotes.add(joined(quote.group(1)));
                }
            }
        }
        return quotes;
    }

    /** A quote that goes over several lines is joined by +. */
    private static String joined(String parts) {
        StringBuilder words = new StringBuilder();
        Matcher part = WORDS.matcher(parts);
        while (part.find()) {
            words.append(part.group(1));
        }
        return words.toString();
    }
}
