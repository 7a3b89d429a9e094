import java.io.IOException;
import java.nio.file.Files;
import java.nio.file.Path;
import java.util.regex.Matcher;
import java.util.regex.Pattern;

/** Rules of LANGUAGE.md that a look at the text of the class can tell. */
public final class LanguageTest {
    private static final Path SOURCE = Path.of("src/main/java/VanPlays.java");

    public static void main(String[] args) throws IOException {
        String source = withoutComments(Files.readString(SOURCE));
        none(source, 2, "a lambda or a method reference", "->|::");
        none(source, 3, "a double, a float, another list", "\\b(double|float|Double|Float|Map|Set|Stack|Deque)\\b");
        none(source, 4, "an Exact function", "\\w+Exact\\b");
        none(source, 4, "another package", "import (?!java\\.util\\.(Arrays|NoSuchElementException|ArrayList|List);)");
        none(source, 5, "a static field that is not final", "static (?!final |class |\\w+ \\w+\\()");
        none(source, 6, "an exception not asked for", "throw new (?!NoSuchElementException\\()");
        none(source, 6, "a catch, finally, assert, synchronized", "\\b(try|catch|finally|assert|synchronized)\\b");
        none(source, 13, "the outside", "\\b(System\\.(?!arraycopy)|Thread|Random|Math\\.random|Runtime)");
        methods(source);
        Check.close();
    }

    private static void none(String source, int rule, String what, String pattern) {
        Matcher matcher = Pattern.compile(pattern).matcher(source);
        while (matcher.find()) {
            Check.due("rule " + rule + ", " + what + " at <" + lineAt(source, matcher.start()) + ">", 1, 0);
        }
    }

    private static void methods(String source) {
        Matcher head = Pattern.compile("\n( +)[\\w\\[\\] ]+ \\w+\\(([^()]*)\\)( throws \\w+)? \\{\n").matcher(source);
        int found = 0;
        while (head.find()) {
            found++;
            int end = source.indexOf("\n" + head.group(1) + "}", head.end());
            long lines = source.substring(head.end(), Math.max(head.end(), end)).lines().count();
            String line = lineAt(source, head.start() + 1);
            Check.due("rule 11, a long method at <" + line + ">", lines > 60, false);
            Check.due("rule 11, many parameters at <" + line + ">", head.group(2).split(",").length > 7, false);
        }
        Check.due("methods are found", found > 40, true);
    }

    private static String lineAt(String source, int place) {
        int start = source.lastIndexOf('\n', place) + 1;
        int end = source.indexOf('\n', place);
        return source.substring(start, end < start ? source.length() : end).trim();
    }

    private static String withoutComments(String source) {
        return source.replaceAll("(?s)/\\*.*?\\*/", "").replaceAll("//[^\n]*", "");
    }
}
