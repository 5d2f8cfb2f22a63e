import java.io.IOException;
import java.nio.file.Files;
import java.nio.file.Path;
import java.util.List;
import java.util.regex.Pattern;

/** Some rules of LANGUAGE.md that can be seen line by line in the program's source. */
public final class LanguageTest {
    private static final Path SOURCE = Path.of("src/main/java/BoardNotation.java");
    private static final int LONGEST_METHOD = 60;
    private static final String[] RULED_OUT = {
        "->", "::", "\\bfinally\\b", "\\bsynchronized\\b", "\\bassert\\b", "\\btry\\b", "\\bprotected\\b", "\\bpackage\\b",
        "static \\{", "\" \\+", "\\+ \"", "\\bgetMessage\\b", "\\bSystem\\.(?!arraycopy)", "\\bMath\\.\\w*Exact",
        "\\bObject\\b", "\\bRandom\\b", "\\bThread\\b", "\\bequals\\(", "\\bhashCode\\b", "\\btoString\\b",
        "while \\(true\\)", "for \\(;;\\)", "[^\\x00-\\x7f]", "import (?!java\\.util\\.Arrays;)",
    };

    public static void main(String[] args) throws IOException {
        List<String> lines = Files.readAllLines(SOURCE);
        int begin = 0;
        for (int k = 0; k < lines.size(); k++) {
            String line = lines.get(k);
            if (line.matches("( {4}){1,2}[^ }*/].*")) {
                begin = k;
            }
            if (line.matches("( {4}){1,2}\\}") && k - begin > LONGEST_METHOD) {
                Due.tell("line " + (begin + 1) + ": a method of more than " + LONGEST_METHOD + " lines");
            }
            if (!line.trim().startsWith("*") && !line.trim().startsWith("/")) {
                ruledOut(k + 1, line);
            }
        }
        Due.end();
    }

    private static void ruledOut(int number, String line) {
        for (String pattern : RULED_OUT) {
            if (Pattern.compile(pattern).matcher(line).find()) {
                Due.tell("line " + number + ": " + pattern + " is ruled out: " + line.trim());
            }
        }
    }
}
