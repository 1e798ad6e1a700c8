import java.lang.reflect.Method;
import java.nio.file.Files;
import java.nio.file.Path;
import java.util.ArrayList;
import java.util.List;
import java.util.regex.Matcher;
import java.util.regex.Pattern;
import java.util.stream.Stream;

/** What README.md says of the class is so: its example is played, and its tables are whole. */
public final class ReadmeTest {
    private static final Pattern TEXT = Pattern.compile("for \\(char code : \"(.*)\"\\.toCharArray\\(\\)\\) \\{");
    private static final Pattern CALL = Pattern.compile("story\\.([a-zA-Z]+)\\(([0-9, ]*)\\); +// ([-0-9a-z]+)(:.*)?");

    public static void main(String[] args) throws Exception {
        List<String> readme = Files.readAllLines(Path.of("README.md"));
        playExample(example(readme));
        namesAllCalls(readme);
        namesAllTests(readme);
        writtenStatementsAreRight(readme);
        Check.end();
    }

    private static List<String> example(List<String> readme) {
        int from = readme.indexOf("```java") + 1;
        return readme.subList(from, from + readme.subList(from, readme.size()).indexOf("```"));
    }

    private static void playExample(List<String> example) {
        Calls object = Calls.make("");
        int calls = 0;
        for (String line : example) {
            Matcher text = TEXT.matcher(line.strip());
            Matcher call = CALL.matcher(line.strip());
            if (text.matches()) {
                text.group(1).chars().forEach(code -> object.call("type", code));
            } else if (call.matches()) {
                String written = (call.group(1) + " " + call.group(2).replace(",", "")).strip();
                String due = call.group(3).replace("true", "1").replace("false", "0");
                Check.same("README.md: " + written, object.written(written), due);
                calls++;
            } else {
                Check.isTrue("README.md: " + line, () -> List.of("", "}", "story.type(code);",
                        "BranchingStory story = new BranchingStory();").contains(line.strip()));
            }
        }
        int found = calls;
        Check.isTrue("README.md has calls with answers", () -> found >= 15);
    }

    private static void namesAllCalls(List<String> readme) {
        String table = String.join("\n", readme);
        for (Method call : BranchingStory.class.getMethods()) {
            if (call.getDeclaringClass() == BranchingStory.class) {
                Check.isTrue("README.md names " + call.getName(), () -> table.contains("`" + call.getName() + "`"));
            }
        }
    }

    private static void namesAllTests(List<String> readme) throws Exception {
        List<String> tests = new ArrayList<>();
        try (Stream<Path> files = Files.list(Path.of("src/test/java"))) {
            files.map(file -> file.getFileName().toString().replace(".java", ""))
                    .filter(name -> name.endsWith("Test")).forEach(tests::add);
        }
        for (String test : tests) {
            Check.isTrue("README.md names " + test,
                    () -> readme.stream().anyMatch(line -> line.startsWith("| `" + test + "` |")));
        }
    }

    /** What the first column of "The text" shows is taken where it stands alone in a node. */
    private static void writtenStatementsAreRight(List<String> readme) {
        int from = readme.indexOf("| written | means |") + 2;
        int to = from + readme.subList(from, readme.size()).indexOf("");
        Check.due("rows under \"The text\"", 9, () -> to - from);
        for (String row : readme.subList(from, to)) {
            Matcher written = Pattern.compile("`([^`]+)`").matcher(row.split(" \\| ")[0]);
            while (written.find()) {
                String statement = written.group(1).replace("..", "");
                String text = statement.startsWith("=") ? statement + " =B" : "=A " + statement + " =B";
                Check.due("the fault of " + text, BranchingStory.NONE, Check.typed(text)::fault);
            }
        }
    }
}
