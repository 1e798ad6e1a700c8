import java.nio.file.Files;
import java.nio.file.Path;
import java.util.ArrayList;
import java.util.List;
import java.util.regex.Pattern;

/** What of the rules of LANGUAGE.md can be seen in the source's lines. */
public final class LanguageTest {
    private static final Path SOURCE = Path.of("src/main/java/BranchingStory.java");
    private static final String[] NOT_THERE = {
        "^package ", "^import (?!java\\.util\\.Arrays;)", "->", "::", "\\btry\\b", "\\bcatch\\b", "\\bfinally\\b",
        "\\bsynchronized\\b", "\\bassert\\b", "Exact\\(", "\\bSystem\\.(?!arraycopy)", "\\bThread\\b", "\\bdouble\\b",
        "\\bfloat\\b", "\\bprotected\\b", "\\bstatic \\{", "Random", "\\bwhile \\(true\\)", "for \\(;;\\)", "\\bnull\\b",
    };

    public static void main(String[] args) throws Exception {
        List<String> lines = code(Files.readAllLines(SOURCE));
        for (String pattern : NOT_THERE) {
            Pattern banned = Pattern.compile(pattern);
            for (String line : lines) {
                Check.isFalse(line.strip(), () -> banned.matcher(line).find());
            }
        }
        staticFieldsAreFinal(lines);
        objectsAreMadeWithTheObject(lines);
        methodsAreShort(lines);
        Check.end();
    }

    /** The lines, without what stands in comments. */
    private static List<String> code(List<String> lines) {
        List<String> code = new ArrayList<>();
        for (String line : lines) {
            String begin = line.strip();
            boolean comment = begin.startsWith("//") || begin.startsWith("/*") || begin.startsWith("*");
            code.add(comment ? "" : line);
        }
        return code;
    }

    private static void staticFieldsAreFinal(List<String> lines) {
        for (String line : lines) {
            if (line.contains(" static ") && line.strip().endsWith(";")) {
                Check.isTrue(line.strip(), () -> line.contains(" static final "));
            }
        }
    }

    /** Objects are made in fields and constructors alone, but for exceptions. */
    private static void objectsAreMadeWithTheObject(List<String> lines) {
        for (String line : lines) {
            if (line.contains("new ")) {
                Check.isTrue(line.strip(), () -> line.contains("throw new ") || line.contains("private ")
                        || line.strip().equals("play = new Play(story);"));
            }
        }
    }

    private static void methodsAreShort(List<String> lines) {
        for (int i = 0; i < lines.size(); i++) {
            String head = lines.get(i);
            if (head.matches(" +(public|private) [^=;]*\\(.*")) {
                String end = " ".repeat(head.length() - head.stripLeading().length()) + "}";
                int length = lines.subList(i, lines.size()).indexOf(end) + 1;
                Check.isTrue(head.strip() + " has " + length + " lines", () -> length > 1 && length <= 60);
            }
        }
    }
}
