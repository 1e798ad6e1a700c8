import java.util.ArrayList;
import java.util.List;
import java.util.function.Consumer;

/**
 * All stories of a few statements over a few kinds of them, each explored and analyzed by the class
 * and by the oracle. Such stories meet in few bytes what long ones from seeds seldom do.
 *
 * With arguments (the most statements, then a kit's number) it goes further than in .ci/run.
 */
public final class SmallStoriesTest {
    // The heads and tails of the nodes, leaves, and what stands before each block of the others.
    private static final String[][][] KITS = {
        {{"=A", ""}, {"+a", "x+1", ">A", "<", ".1"}, {"?a{", "[1]{", "[2?!a]{", "?x=0{"}, {"?a{"}},
        {{"=A#", ""}, {"+a", "x+1", ">A", "<", ".1"}, {"?a{", "[1]{", "[2?x<2]{"}, {"?a{"}},
        {{"=A[9]{+a>B}[8]{x=2>B}=B", ""}, {"-a", "x+1", ">B", "<", ".1"}, {"?a{", "[1]{", "[2?x<2]{"}, {"?x=0{"}},
        {{"=A[9]{+a>B}[8]{>B}=B#", "=C[7]{<}"}, {"-a", ">C", "<", ".1"}, {"?a{", "[1]{", "[2?a&x<9]{"}, {"?x>0{"}},
        {{"=A[9]{>B}[8]{>C}=B#>D=C#x=3>D=D", ""}, {"x=2", ">B", "<", ".1"}, {"?x<3{", "[1]{", "[2?x=3]{"}, {"?x>2{"}},
    };

    private final String[][] kit;
    private final List<List<String>> blocks = new ArrayList<>();
    private String text;

    private SmallStoriesTest(String[][] kit) {
        this.kit = kit;
        blocks.add(List.of(""));
    }

    public static void main(String[] args) {
        int most = args.length > 0 ? Integer.parseInt(args[0]) : 4;
        for (int i = 0; i < KITS.length; i++) {
            if (args.length < 2 || Integer.parseInt(args[1]) == i) {
                new SmallStoriesTest(KITS[i]).go(most);
            }
        }
        Check.end();
    }

    private void go(int most) {
        for (int size = 0; size < most; size++) {
            List<String> found = new ArrayList<>();
            eachBlock(size, found::add);
            if (size > 0) {
                blocks.add(found);
            }
            found.forEach(this::compare);
        }
        // Those of the greatest size are so many that they are not kept.
        eachBlock(most, this::compare);
    }

    /** All blocks of so many statements, made of smaller ones. */
    private void eachBlock(int size, Consumer<String> action) {
        if (size == 0) {
            action.accept("");
        }
        for (int first = 1; first <= size; first++) {
            List<String> behind = blocks.get(size - first);
            eachStatement(first, statement -> behind.forEach(rest -> action.accept(statement + rest)));
        }
    }

    private void eachStatement(int size, Consumer<String> action) {
        if (size == 1) {
            List.of(kit[1]).forEach(action);
        }
        for (String head : kit[2]) {
            blocks.get(size - 1).forEach(block -> action.accept(head + block + "}"));
        }
        for (String head : kit[3]) {
            for (int first = 0; first < size; first++) {
                for (String block : blocks.get(first)) {
                    blocks.get(size - 1 - first).forEach(other -> action.accept(head + block + "}{" + other + "}"));
                }
            }
        }
    }

    private void compare(String block) {
        text = kit[0][0] + block + kit[0][1];
        BranchingStory story = Check.typed(text);
        Oracle oracle = new Oracle();
        for (int i = 0; i < text.length(); i++) {
            oracle.type(text.charAt(i));
        }
        same("fault", story.fault(), oracle.fault());
        if (oracle.fault() == BranchingStory.NONE) {
            same("build", story.build(), oracle.build());
            compareExploring(story, oracle);
            compareAnalyzing(story, oracle);
        }
    }

    private void compareExploring(BranchingStory story, Oracle oracle) {
        same("explore", story.explore(300), oracle.explore(300));
        same("isComplete", story.isComplete(), oracle.isComplete());
        for (int outcome = 0; outcome < 12; outcome++) {
            int length = oracle.wayLength(outcome);
            same("wayLength", story.wayLength(outcome), length);
            same("outcomes", story.outcomes(outcome), oracle.outcomes(outcome));
            for (int i = 0; i < length; i++) {
                same("way", story.way(outcome, i), oracle.way(outcome, i));
            }
        }
        for (int node = 0; node < oracle.count(0); node++) {
            same("occurred 1", story.occurred(1, node), oracle.occurred(1, node));
        }
        for (int choice = 0; choice < oracle.count(1); choice++) {
            same("occurred 2", story.occurred(2, choice), oracle.occurred(2, choice));
        }
    }

    private void compareAnalyzing(BranchingStory story, Oracle oracle) {
        same("analyze", story.analyze(), oracle.analyze());
        same("possible 0", story.possible(0), oracle.possible(0));
        same("possible 1", story.possible(1), oracle.possible(1));
        for (int node = 0; node < oracle.count(0); node++) {
            same("lowest", story.lowest(node, 0), oracle.lowest(node, 0));
            same("greatest", story.greatest(node, 0), oracle.greatest(node, 0));
            same("values", story.values(node, 0), oracle.values(node, 0));
            same("hubs", story.hubs(node), oracle.hubs(node));
        }
        for (int choice = 0; choice < oracle.count(1); choice++) {
            same("isReached", story.isReached(1, choice), oracle.isReached(1, choice));
        }
        for (int test = 0; test < oracle.count(2); test++) {
            same("verdict", story.verdict(test), oracle.verdict(test));
        }
    }

    private void same(String call, int got, int want) {
        Check.number(text, call, got, want);
    }

    private void same(String call, boolean got, boolean want) {
        Check.number(text, call, got ? 1 : 0, want ? 1 : 0);
    }
}
