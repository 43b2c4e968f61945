import java.io.IOException;
import java.nio.file.Files;
import java.nio.file.Path;
import java.util.ArrayList;
import java.util.List;

/** README.md: the code that it shows is that of Usage, and answers what its comments say. */
final class UsageTest {
    private UsageTest() {
    }

    static void run() {
        Check.begin("UsageTest");
        Check.due("Usage.makeAndChange", "6 6 1 14 54 6(1(0,3(2,)),)", () -> Usage.makeAndChange());
        Check.due("Usage.readTexts", "1 2 1 -1 3 6 true 1 false", () -> Usage.readTexts());
        Check.due("Usage.refuse", "true 0 false", () -> Usage.refuse());
        Check.due("Usage.save", "6 6 4 2 throws.NoSuchElementException", () -> Usage.save());
        Check.due("Usage.put of 600 bytes", true, () -> Usage.put(new LeftistSpooler(), " ".repeat(600)));
        Check.due("Usage.put of 601 bytes", false, () -> Usage.put(new LeftistSpooler(), " ".repeat(601)));
        Check.due("Usage.put of no byte", true, () -> Usage.put(new LeftistSpooler(), ""));
        List<String> shown = parts("README.md", "```java", "```");
        Check.due("parts of code in README.md", 5, () -> shown.size());
        Check.due("code in README.md", parts("src/test/java/Usage.java", "// README: ", "// README: end"), () -> shown);
    }

    /** The parts of a file between a line that begins like first and a line that is last, without their indent. */
    private static List<String> parts(String file, String first, String last) {
        List<String> parts = new ArrayList<>();
        List<String> part = null;
        for (String line : lines(file)) {
            if (line.strip().equals(last) && part != null) {
                parts.add(String.join("\n", part).stripIndent());
                part = null;
            } else if (part != null) {
                part.add(line);
            } else if (line.strip().startsWith(first)) {
                part = new ArrayList<>();
            }
        }
        return parts;
    }

    private static List<String> lines(String file) {
        try {
            return Files.readAllLines(Path.of(file));
        } catch (IOException e) {
            return List.of("unreadable: " + file);
        }
    }
}
