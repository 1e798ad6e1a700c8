/** The five examples of the document's "Terms", call by call. */
public final class ExamplesTest {
    public static void main(String[] args) {
        endsWithChoice();
        choiceInHub();
        endsBeforeChoice();
        textEndsTooEarly();
        nameOfNoNode();
        Check.end();
    }

    /** Types the bytes one by one; each call answers the length then. */
    private static void type(BranchingStory story, int from, String bytes) {
        for (int i = 0; i < bytes.length(); i++) {
            int code = bytes.charAt(i);
            Check.due("type(" + code + ")", from + i + 1, () -> story.type(code));
        }
    }

    private static void endsWithChoice() {
        BranchingStory s = new BranchingStory();
        type(s, 0, "=A[1]{.4}");
        Check.due("1 build", 1, s::build);
        Check.due("1 start", 1, s::start);
        Check.due("1 offered", 1, s::offered);
        Check.due("1 choose", 2, () -> s.choose(0));
        Check.due("1 status", 2, s::status);
        Check.due("1 ending", 4, s::ending);
    }

    private static void choiceInHub() {
        BranchingStory s = new BranchingStory();
        type(s, 0, "=A#[1]{x+1}");
        Check.due("2 build", 1, s::build);
        Check.due("2 start", 1, s::start);
        Check.due("2 choose", 3, () -> s.choose(0));
        Check.due("2 status", 3, s::status);
        Check.due("2 meter", 1, () -> s.meter(0));
    }

    private static void endsBeforeChoice() {
        BranchingStory s = new BranchingStory();
        type(s, 0, "=A[1]{}.4");
        Check.due("3 build", 1, s::build);
        Check.due("3 explore", 0, () -> s.explore(9));
        Check.due("3 wayLength", 0, () -> s.wayLength(4));
        Check.due("3 outcomes", 1, () -> s.outcomes(4));
        Check.due("3 start", 2, s::start);
        Check.due("3 offered", 0, s::offered);
    }

    private static void textEndsTooEarly() {
        BranchingStory s = new BranchingStory();
        type(s, 0, "=A?x<2{x+1");
        Check.due("4 fault", 10, s::fault);
        type(s, 10, ">A}");
        Check.due("4 fault at last", -1, s::fault);
        Check.due("4 build", 1, s::build);
    }

    private static void nameOfNoNode() {
        BranchingStory s = new BranchingStory();
        type(s, 0, "=A 7>C");
        Check.due("5 fault", 5, s::fault);
        Check.state("5 build", s::build);
        Check.state("5 start", s::start);
        Check.due("5 count", 0, () -> s.count(0));
    }
}
