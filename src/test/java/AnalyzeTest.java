/** Promises 30 to 37: analyze, isReached, lowest, greatest, values, hubs, verdict, possible. */
public final class AnalyzeTest {
    private static final int NO_HUB = 1 << 12;

    public static void main(String[] args) {
        analyze();
        isReached();
        ranges();
        narrowedRanges();
        falseParts();
        values();
        hubs();
        hubsOfReturns();
        verdict();
        endings();
        deadEnds();
        certainChoices();
        offeredBehindTests();
        nestedChoices();
        anotherStory();
        withoutPlaying();
        wrongArguments();
        order();
        Check.end();
    }

    private static void range(String text, int node, int meter, int low, int high) {
        BranchingStory s = Check.analyzed(text);
        Check.due("lowest in " + text, low, () -> s.lowest(node, meter));
        Check.due("greatest in " + text, high, () -> s.greatest(node, meter));
    }

    private static void analyze() {
        Check.due("one node", 1, () -> Check.built("=A").analyze());
        Check.due("two of three", 2, () -> Check.built("=A>C=B>A=C").analyze());
        Check.due("all of twelve", 12,
                () -> Check.built("=A>B=B>C=C>D=D>E=E>F=F>G=G>H=H>I=I>J=J>K=K>L=L").analyze());
        BranchingStory s = Check.built("=A>B=B");
        s.analyze();
        Check.due("again", 2, s::analyze);
        Check.state("without a story", () -> new BranchingStory().analyze());
    }

    private static void isReached() {
        BranchingStory s = Check.analyzed("=A[1]{>B}[2?a]{>C}[3?!a]{}=B[4]{}?b{[5]{}}=C[6]{}");
        int[] choices = {1, 0, 1, 1, 0, 0};
        for (int i = 0; i < choices.length; i++) {
            int choice = i;
            Check.due("choice " + i, choices[i], () -> s.isReached(1, choice));
        }
        Check.isTrue("node A", () -> s.isReached(0, 0));
        Check.isTrue("node B", () -> s.isReached(0, 1));
        Check.isFalse("node C", () -> s.isReached(0, 2));
        Check.index("node 3", () -> s.isReached(0, 3));
        Check.index("node -1", () -> s.isReached(0, -1));
        Check.index("choice 6", () -> s.isReached(1, 6));
        Check.index("choice -1", () -> s.isReached(1, -1));
        // What follows a jump is not gone through, also behind a test both of whose blocks leave.
        Check.isFalse("behind a jump", () -> Check.analyzed("=A>B[1]{}=B").isReached(1, 0));
        Check.isFalse("behind two endings", () -> Check.analyzed("=A[2]{>B}=B?x<1&a{.1}{.2}[1]{}").isReached(1, 1));
        Check.isTrue("behind one", () -> Check.analyzed("=A?x<1&a{.1}[1]{}").isReached(1, 0));
    }

    private static void ranges() {
        range("=A", 0, 0, 0, 0);
        range("=A[1]{x+1}", 0, 0, 0, 9);
        range("=A[1]{x+1}", 0, 1, 0, 0);
        range("=Ax=5y+3z=9z-2>B=B", 1, 0, 5, 5);
        range("=Ax=5y+3z=9z-2>B=B", 1, 1, 3, 3);
        range("=Ax=5y+3z=9z-2>B=B", 1, 2, 7, 7);
        range("=Ax+9x+9y-1>B=B", 1, 0, 9, 9);
        range("=Ax+9x+9y-1>B=B", 1, 1, 0, 0);
        range("=A[1]{x=2>B}[2]{x=7>B}=B", 1, 0, 2, 7);
        range("=A[1]{x=2>B}[2]{x=7>B}=Bx-3>C=C", 2, 0, 0, 4);
        range("=A[1]{x=2>B}[2]{x=7>B}=Bx+4>C=C", 2, 0, 6, 9);
        range("=A=B", 1, 2, -1, -1);
        range("=A[1]{x=9>A}", 0, 0, 0, 9);
    }

    private static void narrowedRanges() {
        String any = "=A[1]{x+1}[2]{";
        range(any + "?x<3{>B}}=B", 1, 0, 0, 2);
        range(any + "?x>3{>B}}=B", 1, 0, 4, 9);
        range(any + "?x=3{>B}}=B", 1, 0, 3, 3);
        range(any + "?x<0{>B}}=B", 1, 0, -1, -1);
        range(any + "?x>9{>B}}=B", 1, 0, -1, -1);
        range(any + "?x>2&x<6{>B}}=B", 1, 0, 3, 5);
        range(any + "?x>5&x<5{>B}}=B", 1, 0, -1, -1);
        range(any + "?x>5&x=6&y=0{>B}}=B", 1, 0, 6, 6);
        range(any + "?x>5&y=1{>B}}=B", 1, 0, -1, -1);
        // The condition of a choice does not narrow the knowledge with which its block begins.
        range("=A[1]{x+1}[2?x>3]{>B}=B", 1, 0, 0, 9);
    }

    private static void falseParts() {
        String any = "=A[1]{x+1}[2]{";
        range(any + "?x<3{}{>B}}=B", 1, 0, 3, 9);
        range(any + "?x>3{}{>B}}=B", 1, 0, 0, 3);
        range(any + "?x=0{}{>B}}=B", 1, 0, 1, 9);
        range(any + "?x=9{}{>B}}=B", 1, 0, 0, 8);
        range(any + "?x=5{}{>B}}=B", 1, 0, 0, 9);
        range("=Ax=5?x=5{}{>B}=B", 1, 0, -1, -1);
        // At one stroke from 0 to 9, so that no smaller range has been there before.
        range("=A[1]{x=9}[2]{?x=9{}{>B}}=B", 1, 0, 0, 8);
        range("=Ax=5>C=C[1]{x=9}[2]{?x=9{}{>B}}=B", 2, 0, 5, 8);
        range("=Ax=9>C=C[1]{x=0}[2]{?x=9{}{>B}}=B", 2, 0, 0, 8);
        range("=Ax=9>C=C[1]{x=0}[2]{?x=0{}{>B}}=B", 2, 0, 1, 9);
        range("=A?x<1{}{>B}=B", 1, 0, -1, -1);
        range(any + "?x>3&x<9{}{>B}}=B", 1, 0, 0, 9);
        // What is left behind a test whose first block leaves is its false part.
        range(any + "?x<3{.1}>B}=B", 1, 0, 3, 9);
        range(any + "?x<3{x=9}{x=8}>B}=B", 1, 0, 8, 9);
    }

    private static void values() {
        BranchingStory s = Check.analyzed("=A[1]{+a>B}[2]{>B}[3]{+b+c-b>C}=B?a{>D}{>E}=C=D=E=F");
        Check.due("a at A", 1, () -> s.values(0, 0));
        Check.due("a at B", 3, () -> s.values(1, 0));
        Check.due("a at D", 2, () -> s.values(3, 0));
        Check.due("a at E", 1, () -> s.values(4, 0));
        Check.due("b at C", 1, () -> s.values(2, 1));
        Check.due("c at C", 2, () -> s.values(2, 2));
        Check.due("f at C", 1, () -> s.values(2, 5));
        Check.due("a at F", 0, () -> s.values(5, 0));
        BranchingStory t = Check.analyzed("=A[1]{+a}[2]{-a}?!a{>B}{>C}=B=C");
        Check.due("no way but the start", 1, () -> t.values(1, 0));
        Check.due("C is not reached", 0, () -> t.values(2, 0));
        BranchingStory u = Check.analyzed("=A[1]{+a}[2]{-a}[3]{?!a{>B}{>C}}=B=C");
        Check.due("a at A", 3, () -> u.values(0, 0));
        Check.due("not a", 1, () -> u.values(1, 0));
        Check.due("a", 2, () -> u.values(2, 0));
        BranchingStory v = Check.analyzed("=A[1]{+a}[2]{?a&!a{>B}}=B");
        Check.due("a and not a", 0, () -> v.values(1, 0));
    }

    private static void hubs() {
        BranchingStory s = Check.analyzed("=A[1]{>B}[2]{>C}=B#>C=C=D#");
        Check.due("A", NO_HUB, () -> s.hubs(0));
        Check.due("B, before it becomes the hub", NO_HUB, () -> s.hubs(1));
        Check.due("C from both", NO_HUB + 2, () -> s.hubs(2));
        Check.due("D", 0, () -> s.hubs(3));
        BranchingStory t = Check.analyzed("=A#[1]{}");
        Check.due("a hub that is entered again", NO_HUB + 1, () -> t.hubs(0));
        Check.index("node 1", () -> t.hubs(1));
        Check.index("node -1", () -> t.hubs(-1));
        BranchingStory u = Check.analyzed("=A>L=B=C=D=E=F=G=H=I=J=K=L#[1]{>B}");
        Check.due("the twelfth node", 1 << 11, () -> u.hubs(1));
    }

    private static void hubsOfReturns() {
        // All possible hubs stay in the knowledge with which each of them is entered.
        BranchingStory s = Check.analyzed("=A#[1]{>B}[2]{>C}=B#>C=C<");
        Check.due("C", 1 + 2, () -> s.hubs(2));
        Check.due("A", NO_HUB + 1 + 2, () -> s.hubs(0));
        Check.due("B", 1 + 2, () -> s.hubs(1));
        Check.due("a dead end in A alone", 1, () -> s.possible(1));
        // In a choice of a hub the set is not made the hub anew.
        BranchingStory t = Check.analyzed("=A>B=B#[1]{<}");
        Check.due("B", NO_HUB + 2, () -> t.hubs(1));
        BranchingStory u = Check.analyzed("=A[1]{>B}[2]{>C}=B#>C=C 1<");
        Check.due("B from C's return", NO_HUB + 2, () -> u.hubs(1));
        Check.due("a dead end in C", 4, () -> u.possible(1));
    }

    private static void verdict() {
        BranchingStory s = Check.analyzed("=A?a{}?!a{}?x<1{}?x>0{}?x=0{}[1]{y+1?y>5{?y>8{}}}?a&b{?c{}}?!a&!b{}");
        int[] want = {2, 1, 1, 2, 1, 3, 3, 2, 0, 3};
        for (int i = 0; i < want.length; i++) {
            int test = i;
            Check.due("verdict " + i, want[i], () -> s.verdict(test));
        }
        Check.index("verdict 10", () -> s.verdict(10));
        Check.index("verdict -1", () -> s.verdict(-1));
        BranchingStory t = Check.analyzed("=A.1?a{}=B?b{}");
        Check.due("behind an ending", 0, () -> t.verdict(0));
        Check.due("in a node that is not reached", 0, () -> t.verdict(1));
        BranchingStory u = Check.analyzed("=A" + Check.repeat("?a{}", 15) + "+a?a{}");
        Check.due("the sixteenth", 1, () -> u.verdict(15));
        Check.index("no seventeenth", () -> u.verdict(16));
    }

    private static void endings() {
        Check.due("none", 0, () -> Check.analyzed("=A").possible(0));
        Check.due("0 and 9", 1 + 512, () -> Check.analyzed("=A[1]{.0}[2]{.9}[3?a]{.5}").possible(0));
        Check.due("behind another ending", 2, () -> Check.analyzed("=A.1.2").possible(0));
        Check.due("in a node that is not reached", 0, () -> Check.analyzed("=A=B.1").possible(0));
        Check.due("possible, though never there", 2, () -> Check.analyzed("=A[1]{x+2}[2]{?x=3{.1}}").possible(0));
    }

    private static void deadEnds() {
        Check.due("an empty node", 1, () -> Check.analyzed("=A").possible(1));
        Check.due("a return without a hub", 1, () -> Check.analyzed("=A<").possible(1));
        Check.due("a return in a choice", 2, () -> Check.analyzed("=A>B=B[1]{<}").possible(1));
        Check.due("a return with a hub", 0, () -> Check.analyzed("=A#>B=B<").possible(1));
        Check.due("a certain choice", 0, () -> Check.analyzed("=A[1]{}").possible(1));
        Check.due("a choice in a hub", 1, () -> Check.analyzed("=A#[1]{}").possible(1));
        Check.due("a choice with a condition", 1, () -> Check.analyzed("=A[1?x<5]{x+1}").possible(1));
        Check.due("a condition that always holds", 0, () -> Check.analyzed("=A[1?x<5]{}").possible(1));
        Check.due("several terms are never certain", 1, () -> Check.analyzed("=A[1?x<5&y<5]{}").possible(1));
        Check.due("a condition that never holds", 1, () -> Check.analyzed("=A[1?a]{}").possible(1));
        Check.due("a loop is none", 0, () -> Check.analyzed("=A>A").possible(1));
        Check.due("the twelfth node", 1 << 11, () -> Check.analyzed("=A>L=B=C=D=E=F=G=H=I=J=K=L").possible(1));
    }

    private static void certainChoices() {
        String any = "=A[1]{+a>B}[2]{>B}=B";
        Check.due("in both blocks, but not the same", 2, () -> Check.analyzed(any + "?a{[3]{}}{[4]{}}").possible(1));
        Check.due("in one block", 2, () -> Check.analyzed(any + "?a{[3]{}}").possible(1));
        Check.due("before the test", 0, () -> Check.analyzed(any + "[5]{}?a{[3]{}}{[4]{}}").possible(1));
        Check.due("the other block leaves", 0, () -> Check.analyzed(any + "?a{[3]{}}{.1}").possible(1));
        Check.due("the first block leaves", 0, () -> Check.analyzed(any + "?a{.1}{[3]{}}").possible(1));
        Check.due("the first block is not reached", 0, () -> Check.analyzed("=A?a{1}{[3]{}}").possible(1));
        // Behind a choice's block the node is entered only if no choice in it is certain.
        BranchingStory s = Check.analyzed("=A[1]{x=5[2]{x=0>B}}=B");
        Check.due("not entered again", 0, () -> s.greatest(0, 0));
        BranchingStory t = Check.analyzed("=A[1]{x=5[2?x>5]{>B}}=B");
        Check.due("entered again", 5, () -> t.greatest(0, 0));
        BranchingStory u = Check.analyzed("=A#[1]{x=5[2]{>B}}=B");
        Check.due("entered again in a hub", 5, () -> u.greatest(0, 0));
    }

    private static void offeredBehindTests() {
        BranchingStory s = Check.analyzed("=A[9]{+a>B}[8]{>B}=B?a{[1]{>C}}{[2]{>D}}x=7=C=D");
        Check.isTrue("offered in the first block", () -> s.isReached(1, 2));
        Check.isTrue("offered in the second block", () -> s.isReached(1, 3));
        Check.due("the knowledge at the end of the block", 7, () -> s.lowest(2, 0));
        Check.due("the union behind the test", 3, () -> s.values(2, 0));
        BranchingStory t = Check.analyzed("=A[9]{+a>B}[8]{>B}=B?a{[1]{>C}>D}{[2]{}}=C=D");
        Check.isFalse("withdrawn by a jump", () -> t.isReached(1, 2));
        Check.isTrue("the other one", () -> t.isReached(1, 3));
    }

    private static void nestedChoices() {
        BranchingStory s = Check.analyzed("=A[1]{x=3[2]{>B}}=B");
        Check.isTrue("a choice in a choice", () -> s.isReached(1, 1));
        Check.due("its knowledge", 3, () -> s.lowest(1, 0));
        BranchingStory t = Check.analyzed("=A[1]{x=3[2]{>B}>A}=B");
        Check.isFalse("withdrawn by a jump", () -> t.isReached(1, 1));
    }

    private static void anotherStory() {
        BranchingStory s = Check.analyzed("=A#[1]{.1}[2]{.2}?a{?b{}}=B#");
        // The texts are read in turn into two places: both must be as new.
        for (int turn = 0; turn < 4; turn++) {
            Check.type(s, "=C.3[1]{}[2]{}?a{?b{}}=D");
            s.build();
            s.analyze();
            Check.due("endings", 8, () -> s.possible(0));
            Check.due("dead ends", 0, () -> s.possible(1));
            Check.isFalse("choice", () -> s.isReached(1, 0));
            Check.due("verdict", 0, () -> s.verdict(0));
            Check.isFalse("hub", () -> s.isHub(0));
            Check.due("nodes", 2, () -> s.count(0));
        }
    }

    private static void withoutPlaying() {
        BranchingStory s = Check.built("=A[1]{x+1}");
        s.analyze();
        Check.due("status", 0, s::status);
        Check.state("not explored", s::isComplete);
        s.start();
        s.choose(0);
        s.explore(300);
        Check.due("the analysis stays", 9, () -> s.greatest(0, 0));
    }

    private static void wrongArguments() {
        BranchingStory s = Check.analyzed("=A[1]{}?a{}");
        for (int wrong : new int[] {-1, 6, Integer.MIN_VALUE, Integer.MAX_VALUE}) {
            Check.argument("isReached " + wrong, () -> s.isReached(wrong, 0));
            Check.argument("lowest meter " + wrong, () -> s.lowest(0, wrong));
            Check.argument("greatest meter " + wrong, () -> s.greatest(0, wrong));
            Check.argument("values flag " + wrong, () -> s.values(0, wrong));
            Check.argument("possible " + wrong, () -> s.possible(wrong));
            Check.index("lowest node " + wrong, () -> s.lowest(wrong, 0));
            Check.index("greatest node " + wrong, () -> s.greatest(wrong, 2));
            Check.index("values node " + wrong, () -> s.values(wrong, 5));
            Check.index("hubs node " + wrong, () -> s.hubs(wrong));
            Check.index("verdict " + wrong, () -> s.verdict(wrong));
            Check.index("isReached node " + wrong, () -> s.isReached(0, wrong));
            Check.index("isReached choice " + wrong, () -> s.isReached(1, wrong));
        }
        Check.argument("isReached 2", () -> s.isReached(2, 0));
        Check.argument("lowest meter 3", () -> s.lowest(0, 3));
        Check.argument("greatest meter 3", () -> s.greatest(0, 3));
        Check.argument("possible 2", () -> s.possible(2));
        Check.index("lowest node 1", () -> s.lowest(1, 0));
        Check.index("verdict 1", () -> s.verdict(1));
    }

    private static void order() {
        BranchingStory s = Check.built("=A[1]{}?a{}");
        s.start();
        s.explore(9);
        Check.state("isReached", () -> s.isReached(0, -1));
        Check.state("lowest", () -> s.lowest(-1, 0));
        Check.state("greatest", () -> s.greatest(-1, 0));
        Check.state("values", () -> s.values(-1, 0));
        Check.state("hubs", () -> s.hubs(-1));
        Check.state("verdict", () -> s.verdict(-1));
        Check.state("possible", () -> s.possible(0));
        Check.argument("isReached first", () -> s.isReached(2, -1));
        Check.argument("lowest first", () -> s.lowest(-1, 3));
        Check.argument("greatest first", () -> s.greatest(-1, 3));
        Check.argument("values first", () -> s.values(-1, 6));
        Check.argument("possible first", () -> s.possible(2));
        s.analyze();
        Check.argument("lowest before the node", () -> s.lowest(-1, 3));
        Check.argument("values before the node", () -> s.values(-1, 6));
    }
}
