/** Promises 6 to 10: count, name, isHub, label, nodeOf. */
public final class StoryTest {
    public static void main(String[] args) {
        count();
        name();
        isHub();
        label();
        nodeOf();
        withoutStory();
        Check.end();
    }

    private static void count() {
        BranchingStory s = Check.built("=A[1?a]{[2]{?a{[3]{}}}}?b{}{?c{}}=B=C#[4]{}");
        Check.due("nodes", 3, () -> s.count(0));
        Check.due("choices", 4, () -> s.count(1));
        Check.due("tests", 3, () -> s.count(2));
        Check.argument("count(-1)", () -> s.count(-1));
        Check.argument("count(3)", () -> s.count(3));
        Check.argument("count(min)", () -> s.count(Integer.MIN_VALUE));
    }

    private static void name() {
        BranchingStory s = Check.built("=L=C=A");
        Check.due("name 0", 'L', () -> s.name(0));
        Check.due("name 1", 'C', () -> s.name(1));
        Check.due("name 2", 'A', () -> s.name(2));
        Check.index("name 3", () -> s.name(3));
        Check.index("name -1", () -> s.name(-1));
        Check.index("name max", () -> s.name(Integer.MAX_VALUE));
    }

    private static void isHub() {
        BranchingStory s = Check.built("=A#=B=C #1=D 1=E=F=G=H=I=J=K=L#");
        boolean[] hubs = {true, false, true, false, false, false, false, false, false, false, false, true};
        for (int i = 0; i < 12; i++) {
            int node = i;
            Check.due("isHub " + i, hubs[i] ? 1 : 0, () -> s.isHub(node));
        }
        Check.index("isHub 12", () -> s.isHub(12));
        Check.index("isHub -1", () -> s.isHub(-1));
        Check.index("isHub min", () -> s.isHub(Integer.MIN_VALUE));
    }

    private static void label() {
        BranchingStory s = Check.built("=A[0]{[07]{}}?a{[99?a]{}}=B[ 10 ]{}");
        Check.due("label 0", 0, () -> s.label(0));
        Check.due("label 1", 7, () -> s.label(1));
        Check.due("label 2", 99, () -> s.label(2));
        Check.due("label 3", 10, () -> s.label(3));
        Check.index("label 4", () -> s.label(4));
        Check.index("label -1", () -> s.label(-1));
    }

    private static void nodeOf() {
        BranchingStory s = Check.built("=A[1]{[2]{}}=B=C?a{?b{[3]{[4]{}}}}{[5]{}}");
        int[] nodes = {0, 0, 2, 2, 2};
        for (int i = 0; i < nodes.length; i++) {
            int choice = i;
            Check.due("nodeOf " + i, nodes[i], () -> s.nodeOf(choice));
        }
        Check.index("nodeOf 5", () -> s.nodeOf(5));
        Check.index("nodeOf -1", () -> s.nodeOf(-1));
        BranchingStory many = Check.built("=A" + Check.repeat("[1]{}", 15) + "=B[2]{}");
        Check.due("nodeOf 15", 1, () -> many.nodeOf(15));
        Check.index("nodeOf 16", () -> many.nodeOf(16));
    }

    private static void withoutStory() {
        BranchingStory s = Check.typed("=A[1]{}");
        Check.index("name", () -> s.name(0));
        Check.index("isHub", () -> s.isHub(0));
        Check.index("label", () -> s.label(0));
        Check.index("nodeOf", () -> s.nodeOf(0));
        Check.due("count", 0, () -> s.count(0));
        Check.argument("count(3)", () -> s.count(3));
    }
}
