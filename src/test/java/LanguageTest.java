import java.io.IOException;
import java.nio.file.Files;
import java.nio.file.Path;
import java.util.ArrayList;
import java.util.List;
import java.util.regex.Matcher;
import java.util.regex.Pattern;

/** The rules of ../shared/LANGUAGE.md that a look at the source can tell. */
final class LanguageTest {
    private static final String[] FORBIDDEN = {
        "\\bcatch\\b", "\\bfinally\\b", "\\btry\\b", "\\bsynchronized\\b", "\\bassert\\b", "->", "::", "\\bpackage\\b",
        "\\bprotected\\b", "\\bRandom\\b", "\\bThread\\b", "\\bClass\\b", "Exact\\b", "\\bString\\[", "\\bDouble\\b",
        "\\bFloat\\b", "System\\.(?!arraycopy)", "\\bString\\.", "\\bObject\\b", "\\bequals\\b", "\\bhashCode\\b", "\\btoString\\b",
        "\"\\s*\\+", "\\+\\s*\"", "\\bimport (?!java\\.util\\.NoSuchElementException;)", "\\bvar\\b", "\\bnative\\b",
        "\\bstatic (int|long|boolean|char|String|int\\[\\]) \\w+( =|;)", "(?m)^ {4}(static|final|int|long|boolean|void) "};

    private static final List<String> THROWN = List.of("IllegalStateException", "IllegalArgumentException",
        "IndexOutOfBoundsException", "NoSuchElementException");

    private LanguageTest() {
    }

    static void run() {
        Check.begin("LanguageTest");
        String source = read();
        String code = source.replaceAll("(?s)/\\*.*?\\*/", "").replaceAll("//[^\n]*", "");
        for (String pattern : FORBIDDEN) {
            Check.due("the source shows " + pattern, List.of(), () -> found(pattern, code));
        }
        for (String name : found("throw new (\\w+)", code)) {
            Check.due("thrown: " + name, true, () -> THROWN.contains(name.substring(10)));
        }
        Check.due("the source's signs are 1 to 127", true, () -> source.chars().allMatch(c -> c > 0 && c < 128));
        Check.due("the longest method has at most 60 lines", true, () -> longestBody(code) <= 60);
        Check.due("classes inside", true, () -> LeftistSpooler.class.getDeclaredClasses().length <= 11);
    }

    private static String read() {
        try {
            return Files.readString(Path.of("src/main/java/LeftistSpooler.java"));
        } catch (IOException e) {
            return "unreadable: catch";
        }
    }

    private static List<String> found(String pattern, String code) {
        List<String> list = new ArrayList<>();
        Matcher m = Pattern.compile(pattern).matcher(code);
        while (m.find()) {
            list.add(m.group());
        }
        return list;
    }

    private static int longestBody(String code) {
        int longest = 0;
        int start = -1;
        String[] lines = code.split("\n");
        for (int i = 0; i < lines.length; i++) {
            String line = lines[i];
            boolean isHead = line.matches(" {4}( {4})?[a-zA-Z].*\\).*\\{") && !line.contains(" class ");
            if (isHead) {
                start = i;
            } else if (start >= 0 && line.matches(" {4}( {4})?\\}")) {
                longest = Math.max(longest, i - start + 1);
                start = -1;
            }
        }
        return longest;
    }
}
