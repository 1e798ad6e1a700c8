/** Promises 24 to 29: explore, isComplete, wayLength, way, outcomes, occurred. */
public final class ExploreTest {
    public static void main(String[] args) {
        explore();
        exploreLeavesPlay();
        equalStates();
        isComplete();
        ways();
        longWays();
        outcomes();
        occurred();
        wrongArguments();
        order();
        Check.end();
    }

    private static void explore() {
        Check.due("one state", 1, () -> Check.built("=A[1]{}").explore(300));
        Check.due("no state", 0, () -> Check.built("=A.1").explore(1));
        Check.due("ten states", 10, () -> Check.built("=A[1]{x+1}").explore(300));
        Check.due("ten, and a limit of nine", 9, () -> Check.built("=A[1]{x+1}").explore(9));
        Check.due("ten, and a limit of one", 1, () -> Check.built("=A[1]{x+1}").explore(1));
        Check.due("a thousand states", 300, () -> Check.built("=A[1]{x+1}[2]{y+1}[3]{z+1}").explore(300));
        BranchingStory s = Check.built("=A[1]{x+1}");
        s.explore(3);
        Check.due("the latest counts", 10, () -> s.explore(20));
    }

    private static void exploreLeavesPlay() {
        BranchingStory s = Check.started("=A#1[1]{+ax+2}[2]{2<}[3]{.1}");
        s.choose(0);
        s.explore(300);
        s.analyze();
        Check.due("status", 1, s::status);
        Check.due("offered", 2, s::offered);
        Check.due("said", 2, s::said);
        Check.due("line", 1, () -> s.line(0));
        Check.due("x", 2, () -> s.meter(0));
        Check.due("a", 1, () -> s.flag(0));
        Check.due("hub", 0, s::hub);
        Check.due("back", 0, s::back);
        Check.due("a choice of before", 0, () -> s.choice(0));
    }

    private static void equalStates() {
        // They differ in the hub alone, in a flag, in a taken choice of a hub, in the offered choices.
        Check.due("hub", 3, () -> Check.built("=A[1]{>B}[2]{>C}=B#>C=C[3]{}").explore(300));
        Check.due("flag", 2, () -> Check.built("=A[1]{+a}").explore(300));
        Check.due("flag back again", 2, () -> Check.built("=A[1]{+f}[2]{-f}").explore(300));
        Check.due("taken in a hub", 4, () -> Check.built("=A#[1]{}[2]{}>B=B[3]{>C}=C#[4]{}[5]{}").explore(300));
        Check.due("taken elsewhere", 1, () -> Check.built("=A[1]{}[2]{}").explore(300));
        Check.due("offered", 2, () -> Check.built("=A[1]{[2]{}}").explore(300));
        Check.due("node", 2, () -> Check.built("=A[1]{>B}=B[2]{>A}").explore(300));
        Check.due("taken, but offered no more", 4, () -> Check.built("=A#[1]{>B}[2]{>B}=B[3]{>C}=C[4]{>A}").explore(4));
        Check.due("lines do not count", 1, () -> Check.built("=A 1[1]{2}").explore(300));
    }

    private static void isComplete() {
        Check.isTrue("complete", () -> Check.explored("=A[1]{x+1}", 10).isComplete());
        Check.isFalse("incomplete", () -> Check.explored("=A[1]{x+1}", 9).isComplete());
        Check.isTrue("no states", () -> Check.explored("=A.1", 1).isComplete());
        Check.isFalse("300 of 1000", () -> Check.explored("=A[1]{x+1}[2]{y+1}[3]{z+1}", 300).isComplete());
        Check.isTrue("a state that was found before is no new one", () -> Check.explored("=A[1]{}", 1).isComplete());
        BranchingStory s = Check.explored("=A[1]{x+1}", 9);
        s.explore(10);
        Check.isTrue("the latest exploration", s::isComplete);
        s.explore(2);
        Check.isFalse("the latest one again", s::isComplete);
        Check.state("not explored", () -> Check.built("=A").isComplete());
        Check.state("without a story", () -> new BranchingStory().isComplete());
        Check.state("only played and analyzed", () -> {
            BranchingStory t = Check.started("=A");
            t.analyze();
            return t.isComplete();
        });
    }

    private static void ways() {
        BranchingStory s = Check.explored("=A[1]{x+1}[2?x>1]{>B}[3?x>2]{.3}=B[4]{>A}[5]{<}[6]{>C}[7]{.7}=C>C", 300);
        Check.due("no way", -1, () -> s.wayLength(0));
        Check.due("the shortest way to 3", 4, () -> s.wayLength(3));
        int[] to3 = {0, 0, 0, 2};
        int[] to7 = {0, 0, 1, 3};
        int[] toDead = {0, 0, 1, 1};
        int[] toLoop = {0, 0, 1, 2};
        for (int i = 0; i < 4; i++) {
            int index = i;
            Check.due("way to 3 at " + i, to3[i], () -> s.way(3, index));
            Check.due("way to 7 at " + i, to7[i], () -> s.way(7, index));
            Check.due("way to a dead end at " + i, toDead[i], () -> s.way(10, index));
            Check.due("way to a loop at " + i, toLoop[i], () -> s.way(11, index));
        }
        Check.index("behind its end", () -> s.way(3, 4));
        Check.index("before its begin", () -> s.way(3, -1));
        Check.index("at max", () -> s.way(3, Integer.MAX_VALUE));
        Check.index("no way", () -> s.way(0, 0));
        Check.index("no way, below 0", () -> s.way(0, -1));
        BranchingStory t = Check.explored("=A.5", 1);
        Check.due("at the start", 0, () -> t.wayLength(5));
        Check.index("an empty way", () -> t.way(5, 0));
        // Two positions lead there: the first counts.
        BranchingStory u = Check.explored("=A[1]{+a}[2]{.1}[3]{.1}", 9);
        Check.due("the first flow", 1, () -> u.way(1, 0));
    }

    private static void longWays() {
        BranchingStory s = Check.explored("=A[1]{?x<9{x+1}{x=0?y<9{y+1}{y=0z+1}}?z=2{.1}}", 300);
        Check.due("two hundred choices", 200, () -> s.wayLength(1));
        for (int i = 0; i < 200; i += 7) {
            int index = i;
            Check.due("way at " + i, 0, () -> s.way(1, index));
        }
        Check.index("way at 200", () -> s.way(1, 200));
        BranchingStory t = Check.explored("=A[1]{x=0}[2]{?x<9{x+1}{.2}}", 300);
        Check.due("ten choices", 10, () -> t.wayLength(2));
        for (int i = 0; i < 10; i++) {
            int index = i;
            Check.due("way at " + i, 1, () -> t.way(2, index));
        }
    }

    private static void outcomes() {
        BranchingStory s = Check.explored("=A[1]{+a}[2]{.1}[3]{.1}[4]{<}[5]{>B}=B>B", 300);
        Check.due("ending 1 from both states", 4, () -> s.outcomes(1));
        Check.due("dead ends", 2, () -> s.outcomes(10));
        Check.due("loops", 2, () -> s.outcomes(11));
        Check.due("none", 0, () -> s.outcomes(0));
        s.explore(1);
        Check.due("with a limit of one", 2, () -> s.outcomes(1));
        Check.due("loops with a limit of one", 1, () -> s.outcomes(11));
        Check.due("the start is a flow", 1, () -> Check.explored("=A", 1).outcomes(10));
        for (int n = 0; n <= 9; n++) {
            int ending = n;
            Check.due("ending " + n, 1, () -> Check.explored("=A." + ending, 1).outcomes(ending));
        }
    }

    private static void occurred() {
        BranchingStory s = Check.explored("=A 1[1]{2>B}[2?a]{3}=B 99[3]{.1}=C 4=D 5 0[4]{}", 300);
        for (int n = 0; n < 100; n++) {
            int line = n;
            Check.due("line " + n, n == 1 || n == 2 || n == 99 ? 1 : 0, () -> s.occurred(0, line));
        }
        Check.isTrue("the line 0", () -> Check.explored("=A 0", 1).occurred(0, 0));
        Check.isTrue("node A", () -> s.occurred(1, 0));
        Check.isTrue("node B", () -> s.occurred(1, 1));
        Check.isFalse("node C", () -> s.occurred(1, 2));
        Check.isTrue("choice 0", () -> s.occurred(2, 0));
        Check.isFalse("choice 1", () -> s.occurred(2, 1));
        Check.isTrue("choice 2", () -> s.occurred(2, 2));
        Check.isFalse("choice 3", () -> s.occurred(2, 3));
        Check.index("line 100", () -> s.occurred(0, 100));
        Check.index("line -1", () -> s.occurred(0, -1));
        Check.index("node 4", () -> s.occurred(1, 4));
        Check.index("node -1", () -> s.occurred(1, -1));
        Check.index("choice 4", () -> s.occurred(2, 4));
        Check.index("choice -1", () -> s.occurred(2, -1));
        // A choice that is withdrawn before the flow ends is not offered when it ends.
        BranchingStory t = Check.explored("=A[1]{}>B=B[2]{.1}", 300);
        Check.isFalse("withdrawn", () -> t.occurred(2, 0));
        Check.isFalse("offered before an ending", () -> Check.explored("=A[1]{}.1", 9).occurred(2, 0));
        // States beyond the limit are reached by flows, too.
        BranchingStory u = Check.explored("=A[1]{>B}=B 7[2]{8}", 1);
        Check.isTrue("a choice in a state that is not found", () -> u.occurred(2, 1));
        Check.isTrue("its line", () -> u.occurred(0, 7));
        Check.isTrue("its node", () -> u.occurred(1, 1));
        Check.isFalse("what lies behind it", () -> u.occurred(0, 8));
        u.explore(2);
        Check.isTrue("then it is found", () -> u.occurred(0, 8));
        u.explore(1);
        Check.isFalse("by the latest exploration", () -> u.occurred(0, 8));
        BranchingStory v = Check.explored("=A 0[1]{>B}=B[2]{>C}=C[3]{}", 2);
        Check.isTrue("choice 2 behind the second state", () -> v.occurred(2, 2));
        v.explore(1);
        Check.isFalse("not behind the first one", () -> v.occurred(2, 2));
        Check.isFalse("nor the node", () -> v.occurred(1, 2));
        Check.type(v, "=A");
        v.build();
        v.explore(1);
        Check.isFalse("line 0 in a story without it", () -> v.occurred(0, 0));
    }

    private static void wrongArguments() {
        BranchingStory s = Check.explored("=A[1]{}", 9);
        for (int limit : new int[] {0, -1, 301, Integer.MIN_VALUE, Integer.MAX_VALUE}) {
            Check.argument("explore " + limit, () -> s.explore(limit));
        }
        for (int wrong : new int[] {-1, 12, Integer.MIN_VALUE, Integer.MAX_VALUE}) {
            Check.argument("wayLength " + wrong, () -> s.wayLength(wrong));
            Check.argument("way " + wrong, () -> s.way(wrong, 0));
            Check.argument("outcomes " + wrong, () -> s.outcomes(wrong));
            Check.argument("occurred " + wrong, () -> s.occurred(wrong, 0));
        }
        Check.argument("occurred 3", () -> s.occurred(3, 0));
        BranchingStory t = Check.explored("=A[1]{x+1}", 4);
        Check.argument("explore 0", () -> t.explore(0));
        Check.isFalse("changes nothing", t::isComplete);
    }

    private static void order() {
        BranchingStory s = Check.built("=A[1]{}");
        Check.state("wayLength", () -> s.wayLength(0));
        Check.state("way", () -> s.way(11, -1));
        Check.state("outcomes", () -> s.outcomes(11));
        Check.state("occurred", () -> s.occurred(0, -1));
        Check.argument("wayLength first", () -> s.wayLength(12));
        Check.argument("way first", () -> s.way(12, -1));
        Check.argument("outcomes first", () -> s.outcomes(-1));
        Check.argument("occurred first", () -> s.occurred(-1, -1));
        Check.argument("explore first", () -> new BranchingStory().explore(301));
        Check.state("explore without a story", () -> new BranchingStory().explore(1));
    }
}
