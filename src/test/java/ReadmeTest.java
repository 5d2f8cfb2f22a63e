import java.io.IOException;
import java.nio.charset.StandardCharsets;
import java.nio.file.Files;
import java.nio.file.Path;
import java.util.Comparator;
import java.util.List;
import java.util.regex.Matcher;
import java.util.regex.Pattern;
import java.util.stream.Collectors;
import java.util.stream.Stream;

/** The example of README.md works as it is written: its program, its commands, and what it prints. */
public final class ReadmeTest {
    private static final Path README = Path.of("README.md");
    private static final Path SOURCE = Path.of("src/main/java/BoardNotation.java");

    public static void main(String[] args) throws IOException, InterruptedException {
        String readme = Files.readString(README);
        Path place = Files.createTempDirectory("readme");
        try {
            Files.writeString(place.resolve("Example.java"), block(readme, "java"));
            Files.createDirectories(place.resolve(SOURCE).getParent());
            Files.copy(SOURCE, place.resolve(SOURCE));
            StringBuilder printed = new StringBuilder();
            for (String command : block(readme, "sh").split("\n")) {
                printed.append(run(place, command));
            }
            Due.isText("the example", printed.toString(), block(readme, "text"));
        } finally {
            remove(place);
        }
        Due.end();
    }

    /** There is one block of each language, so that no other one goes unread. */
    private static String block(String readme, String language) {
        Matcher blocks = Pattern.compile("(?ms)^```" + language + "\n(.*?)^```$").matcher(readme);
        String found = "";
        int count = 0;
        while (blocks.find()) {
            found = blocks.group(1);
            count++;
        }
        Due.is("blocks of " + language + " in README.md", count, 1);
        return found;
    }

    private static String run(Path place, String command) throws IOException, InterruptedException {
        Process process = new ProcessBuilder(command.trim().split(" +")).directory(place.toFile())
                .redirectErrorStream(true).start();
        String printed = new String(process.getInputStream().readAllBytes(), StandardCharsets.UTF_8);
        Due.is("exit code of " + command, process.waitFor(), 0);
        return printed.replace(System.lineSeparator(), "\n");
    }

    private static void remove(Path place) throws IOException {
        List<Path> all;
        try (Stream<Path> walk = Files.walk(place)) {
            all = walk.sorted(Comparator.reverseOrder()).collect(Collectors.toList());
        }
        for (Path path : all) {
            Files.delete(path);
        }
    }
}
