/** The sentences on exploring: promises 24 to 29. */
final class ExploreEdges {
    private static final int MIN = Integer.MIN_VALUE;
    private static final int MAX = Integer.MAX_VALUE;
    // The ways of this story: ending 4 by 1 0, a dead end by 1 1, a loop by 1 2 and no other outcome.
    private static final String SMALL = "=A 7[1]{x+1}[2]{>B}=B#8[3]{.4}[4]{9>D}[5]{>C}=C>C=D";
    // 10 times 10 times 3 waiting states.
    private static final String THREE_HUNDRED = "=A[1]{x+1}[2]{y+1}[3?z<2]{z+1}";
    // The same, and one more behind the last of them.
    private static final String ONE_MORE = THREE_HUNDRED + "[4?x>8&y>8&z>1]{>B}=B[5]{}";

    private final Doc doc;

    ExploreEdges(Doc doc) {
        this.doc = doc;
    }

    void check() {
        overview();
        waitingStates();
        firstState();
        order();
        limit();
        allFlows();
        outcomeNumbers();
        waysToOutcomes();
        explore();
        isComplete();
        wayLength();
        way();
        outcomes();
        occurred();
        occurredFails();
    }

    private static int found(String text) {
        return Check.built(text).explore(300);
    }

    private void overview() {
        doc.says(0, "It can be played, taken back, explored completely with the shortest ways to all endings and dead ends");
        BranchingStory s = Check.built(SMALL);
        Check.due("played", 1, s::start);
        s.choose(0);
        Check.due("taken back", 0, s::back);
        Check.due("explored", 20, () -> Check.built("=A[1]{x+1}[2]{>B}=B[3]{.4}").explore(300));
        s.explore(300);
        Check.isTrue("completely", s::isComplete);
        Check.due("the shortest way to an ending", 2, () -> s.wayLength(4));
        Check.due("the shortest way to a dead end", 2, () -> s.wayLength(10));
        Check.due("analyzed", 4, s::analyze);
        Check.due("with ranges of meters", 9, () -> s.greatest(0, 0));
    }

    private void waitingStates() {
        doc.says(0, "A waiting state consists of the present node, the flags, the meters, the present hub");
        Check.due("the same", 1, () -> found("=A[1]{}"));
        Check.due("the node", 2, () -> found("=A[1]{>B}=B[2]{>A}"));
        for (char flag : "abcdef".toCharArray()) {
            Check.due("flag " + flag, 2, () -> found("=A[1]{+" + flag + "}"));
            Check.due("flag there and back " + flag, 2, () -> found("=A[1]{+" + flag + "}[2]{-" + flag + "}"));
        }
        Check.due("all flags", 64, () -> found("=A[1]{+a}[2]{+b}[3]{+c}[4]{+d}[5]{+e}[6]{+f}"));
        for (char meter : "xyz".toCharArray()) {
            Check.due("meter " + meter, 10, () -> found("=A[1]{" + meter + "+1}"));
        }
        Check.due("two meters", 100, () -> found("=A[1]{x+1}[2]{z+1}"));
        Check.due("the hub alone", 3, () -> found("=A[1]{>B}[2]{>C}=B#>C=C[3]{}"));
        Check.due("the first node as hub", 4, () -> found("=A#?!a{[1]{+a>B}[2]{+a>C}}=B[3]{}=C#[4]{>B}"));
        Check.due("two hubs", 4, () -> found("=A[1]{>B}[2]{>C}[3]{>D}=B#>D=C#>D=D[4]{}"));
        Check.due("choices of hubs that have been taken", 3, () -> found("=A#[1]{>B}[2]{>B}=B[3]{}"));
        Check.due("the second choice and the 16th", 3,
                () -> found("=A>C=B[1]{}=C#[2]{>B}" + "[3?a]{}".repeat(13) + "[4]{>B}"));
        Check.due("other choices that have been taken", 2, () -> found("=A[1]{>B}[2]{>B}=B[3]{}"));
        Check.due("the offered ones", 2, () -> found("=A[1]{[2]{}}"));
        Check.due("two sets of offered ones", 3, () -> found("=A[1]{[3]{}}[2]{[4]{}}"));
        Check.due("lines are no part of it", 1, () -> found("=A 1[1]{2}[2]{3 4}"));
    }

    private void firstState() {
        doc.says(0, "To explore the story with a limit means: the story is started; if it waits then, this is the first waiting state.");
        Check.due("it waits", 1, () -> Check.built("=A[1]{}").explore(1));
        Check.due("it ends", 0, () -> Check.built("=A.1").explore(1));
        Check.due("a dead end", 0, () -> Check.built("=A").explore(300));
        Check.due("a loop", 0, () -> Check.built("=A>A").explore(300));
        // From the start, wherever the play is.
        BranchingStory s = Check.started(SMALL);
        s.choose(1);
        s.choose(0);
        s.explore(300);
        Check.due("the way from the start", 2, () -> s.wayLength(4));
        doc.says(0, "In each of them each of the choices that are offered is taken from it, in order.");
        BranchingStory all = Check.explored("=A" + "[1]{.1}".repeat(15) + "[2]{.2}", 1);
        Check.due("all 16", 15, () -> all.outcomes(1));
        Check.due("the last", 15, () -> all.way(2, 0));
        Check.due("the first of those before", 0, () -> all.way(1, 0));
    }

    private void order() {
        doc.says(0, "The waiting states are gone through in the order in which they are found.");
        BranchingStory s = Check.explored("=A[1]{>B}[2]{>C}=B[3]{>D}=C[4]{.1}=D[5]{.1}", 300);
        Check.due("the shorter way", 2, () -> s.wayLength(1));
        Check.due("by C", 1, () -> s.way(1, 0));
        // Two ways of the same length: the state that is found first leads to the first flow.
        BranchingStory t = Check.explored("=A[1]{>B}[2]{>C}=B[3]{.1}=C[4]{.1}", 300);
        Check.due("by B", 0, () -> t.way(1, 0));
        BranchingStory u = Check.explored("=A[1]{>C}[2]{>B}=B[3]{.1}=C[4]{}[5]{.1}", 300);
        Check.due("by C, which was found first", 0, () -> u.way(1, 0));
        Check.due("there by its second choice", 1, () -> u.way(1, 1));
        // With a limit of two, the first one is found and the second one is not.
        BranchingStory v = Check.explored("=A[1]{>B}[2]{>C}=B[3]{.1}=C[4]{.2}", 2);
        Check.due("behind B", 1, () -> v.outcomes(1));
        Check.due("not behind C", 0, () -> v.outcomes(2));
    }

    private void limit() {
        doc.says(0, "but if as many as the limit have been found, it is not, and the exploration is incomplete");
        for (int i = 1; i <= 12; i++) {
            int limit = i;
            BranchingStory s = Check.built("=A[1]{x+1}");
            Check.due("ten states, limit " + i, limit < 10 ? limit : 10, () -> s.explore(limit));
            Check.due("complete with limit " + i, limit < 10 ? 0 : 1, s::isComplete);
        }
        BranchingStory s = Check.built(ONE_MORE);
        Check.due("301 states", 300, () -> s.explore(300));
        Check.isFalse("one is not found", s::isComplete);
        Check.isTrue("though a flow led there", () -> s.occurred(1, 1));
        Check.due("299 of them", 299, () -> s.explore(299));
        Check.isFalse("two are not found", s::isComplete);
        doc.says(0, "(It is complete otherwise.)");
        BranchingStory t = Check.built(THREE_HUNDRED);
        Check.due("300 states", 300, () -> t.explore(300));
        Check.isTrue("all are found", t::isComplete);
        Check.due("299 of 300", 299, () -> t.explore(299));
        Check.isFalse("one is not found", t::isComplete);
        Check.isTrue("no state at all", () -> Check.explored("=A.1", 1).isComplete());
        // A state that is equal to one that was found is none that is not found.
        Check.isTrue("the same again", () -> Check.explored("=A[1]{}[2]{}[3]{}", 1).isComplete());
        // Beyond the limit the other choices are taken still.
        BranchingStory u = Check.explored("=A[1]{+a}[2]{+b}[3]{.1}", 1);
        Check.due("the ending is seen", 1, () -> u.outcomes(1));
        Check.isFalse("two are not found", u::isComplete);
    }

    private void allFlows() {
        doc.says(0, "All flows of this are flows of the exploration.");
        BranchingStory s = Check.explored("=A 1[1]{2>B}[2]{3.1}=B 4[3]{5}", 1);
        int[] said = {0, 1, 1, 1, 1, 0};
        for (int i = 0; i < said.length; i++) {
            int line = i;
            Check.due("line " + i, said[i], () -> s.occurred(0, line));
        }
        Check.due("the start is one of them", 1, () -> Check.explored("=A<", 1).outcomes(10));
        // So each has at most 150 statements.
        BranchingStory t = Check.explored("=A[1]{" + "-a".repeat(149) + ">B}[2]{1}=B", 9);
        Check.due("150 statements", 1, () -> t.outcomes(10));
        Check.due("no loop", 0, () -> t.outcomes(11));
        BranchingStory u = Check.explored("=A[1]{" + "-a".repeat(150) + ">B}[2]{1}=B", 9);
        Check.due("151 statements", 0, () -> u.outcomes(10));
        Check.due("a loop", 1, () -> u.outcomes(11));
    }

    private void outcomeNumbers() {
        doc.says(0, "The outcomes are numbered: 0 to 9 the endings with these numbers, 10 a dead end, 11 a loop.");
        for (int i = 0; i < 12; i++) {
            String end = i < 10 ? "." + i : i == 10 ? "<" : ">A";
            BranchingStory s = Check.explored("=A" + end, 1);
            for (int k = 0; k < 12; k++) {
                int outcome = k;
                Check.due("outcome " + k + " of " + end, k == i ? 1 : 0, () -> s.outcomes(outcome));
                Check.due("way to " + k + " of " + end, k == i ? 0 : -1, () -> s.wayLength(outcome));
            }
        }
        Check.due("a dead end at the end of a node", 1, () -> Check.explored("=A", 1).outcomes(10));
    }

    private void waysToOutcomes() {
        doc.says(0, "The way to an outcome consists of the positions, from 0, among the choices that are offered");
        BranchingStory s = Check.explored("=A[1?a]{.9}[2]{+a}[3]{>B}=B[4?!a]{}[5?a]{.5}[6]{>C}=C>C", 300);
        // Without a, choice 1 stands at position 0 and choice 2 at 1; in B choice 4 and then choice 6.
        int[][] ways = {{9, 0, 0}, {5, 0, 2, 0}, {11, 1, 1}};
        for (int[] way : ways) {
            Check.due("length of the way to " + way[0], way.length - 1, () -> s.wayLength(way[0]));
            for (int i = 1; i < way.length; i++) {
                int index = i - 1;
                Check.due("way to " + way[0] + " at " + index, way[i], () -> s.way(way[0], index));
            }
        }
        // A waiting state that is found twice keeps the way by which it was found first.
        BranchingStory t = Check.explored("=A[1]{+a}[2]{+a}[3?a]{.1}", 300);
        Check.due("by the first choice", 0, () -> t.way(1, 0));
        Check.due("and the third", 2, () -> t.way(1, 1));
        // A later flow with the outcome does not change the way.
        BranchingStory u = Check.explored("=A[1]{+a}[2]{.1}", 300);
        Check.due("two flows", 2, () -> u.outcomes(1));
        Check.due("the first one", 1, () -> u.wayLength(1));
    }

    private void explore() {
        doc.says(24, "Explores the story.");
        Check.due("found", 2, () -> Check.built("=A[1]{>B}=B[2]{.1}").explore(9));
        doc.says(24, "The story that is played is not changed by that.");
        String[][] before = {{"build"}, {"build", "start"}, {"build", "start", "choose 0", "choose 1"},
            {"build", "start", "choose 1", "choose 0"}, {"build", "start", "choose 1", "choose 1"},
            {"build", "start", "choose 1", "choose 2"}};
        for (String[] calls : before) {
            // Of the twins one explores before what it plays, the other one behind it.
            Calls one = Calls.make(SMALL, calls);
            one.written("explore 300");
            String[] other = new String[calls.length + 1];
            other[0] = "build";
            other[1] = "explore 300";
            System.arraycopy(calls, 1, other, 2, calls.length - 1);
            Check.same("all answers behind " + String.join(" ", calls), one.all(), Calls.make(SMALL, other).all());
        }
        doc.says(24, "- `limit`: 1 to 300");
        Check.due("1", 1, () -> Check.built(ONE_MORE).explore(1));
        Check.due("300", 300, () -> Check.built(ONE_MORE).explore(300));
        doc.says(24, "Returns the number of waiting states that were found.");
        Check.due("none", 0, () -> Check.built("=A").explore(300));
        Check.due("20", 20, () -> Check.built("=A[1]{x+1}[2]{+a}").explore(300));
        BranchingStory again = Check.built(ONE_MORE);
        Check.due("many", 250, () -> again.explore(250));
        Check.due("fewer", 7, () -> again.explore(7));
        Check.due("all that can be", 300, () -> again.explore(300));
        doc.says(24, "Throws `IllegalArgumentException` if limit is out of range");
        for (int limit : new int[] {0, -1, 301, 302, MIN, MAX}) {
            Calls.refusedArgument("explore " + limit, "");
            Calls.refusedArgument("explore " + limit, SMALL, "build", "start", "choose 0");
            Calls.refusedArgument("explore " + limit, SMALL, "build", "start", "choose 1", "explore 3", "analyze");
        }
        doc.says(24, "Throws `IllegalStateException` if there is no story");
        Calls.refusedState("explore 1", "");
        Calls.refusedState("explore 300", SMALL);
        Calls.refusedState("explore 1", "=A}");
    }

    private void isComplete() {
        doc.says(25, "Tells whether the latest exploration is complete.");
        BranchingStory s = Check.explored("=A[1]{x+1}", 9);
        Check.isFalse("9 of 10", s::isComplete);
        s.explore(10);
        Check.isTrue("10 of 10", s::isComplete);
        s.explore(1);
        Check.isFalse("1 of 10", s::isComplete);
        doc.says(25, "Returns true if it is.");
        Check.isTrue("it is", () -> Check.explored(SMALL, 300).isComplete());
        Check.isFalse("it is not", () -> Check.explored(SMALL, 2).isComplete());
        notExplored(25, "isComplete");
    }

    /** The calls throw while the story is not explored: new, built, played, analyzed, or built anew. */
    private void notExplored(int promise, String... calls) {
        doc.says(promise, "Throws `IllegalStateException` if this story has not been explored");
        for (String call : calls) {
            Calls.refusedState(call, "");
            Calls.refusedState(call, SMALL);
            Calls.refusedState(call, SMALL, "build");
            Calls.refusedState(call, SMALL, "build", "start", "choose 0", "analyze");
            Calls.refusedState(call, SMALL, "build", "explore 9", "build");
            Calls.refusedState(call, SMALL, "build", "explore 9", "text =A", "build");
        }
    }

    /** The calls with an outcome throw where it is out of range. */
    private void noOutcome(int promise, String call, String behind) {
        doc.says(promise, "Throws `IllegalArgumentException` if outcome is out of range");
        for (int outcome : new int[] {-1, 12, 13, MIN, MAX}) {
            Calls.refusedArgument(call + outcome + behind, "");
            Calls.refusedArgument(call + outcome + behind, SMALL, "build");
            Calls.refusedArgument(call + outcome + behind, SMALL, "build", "explore 30");
        }
    }

    private void wayLength() {
        doc.says(26, "Returns the length of the way to an outcome, by the latest exploration.");
        BranchingStory s = Check.explored(SMALL, 300);
        Check.due("ending 4", 2, () -> s.wayLength(4));
        s.explore(1);
        Check.due("with one state", -1, () -> s.wayLength(4));
        s.explore(300);
        doc.says(26, "- `outcome`: 0 to 11");
        Check.due("0", 0, () -> Check.explored("=A.0", 1).wayLength(0));
        Check.due("11", 2, () -> s.wayLength(11));
        doc.says(26, "Returns the number of choices; NONE if no flow had this outcome.");
        for (int i = 0; i < 12; i++) {
            int outcome = i;
            Check.due("length to " + i, i == 4 || i >= 10 ? 2 : -1, () -> s.wayLength(outcome));
        }
        Check.due("no choices", 0, () -> Check.explored("=A.5", 1).wayLength(5));
        // A way through all of the 300 states that can be found.
        String row = "=A[1]{?x<9{x+1}{x=0?y<9{y+1}{y=0z+1}}?z>2{.1}}";
        Check.due("300 choices", 300, () -> Check.explored(row, 300).wayLength(1));
        Check.due("not with a limit of 299", -1, () -> Check.explored(row, 299).wayLength(1));
        noOutcome(26, "wayLength ", "");
        notExplored(26, "wayLength 0", "wayLength 11");
    }

    private void way() {
        doc.says(27, "Returns a position of the way to an outcome, by the latest exploration.");
        BranchingStory s = Check.explored(SMALL, 300);
        Check.due("the last position to a loop", 2, () -> s.way(11, 1));
        doc.says(27, "- `outcome`: 0 to 11");
        Check.due("outcome 0", 1, () -> Check.explored("=A[1]{}[2]{.0}", 1).way(0, 0));
        Check.due("outcome 11", 1, () -> Check.explored("=A[1]{}[2]{>B}=B>B", 1).way(11, 0));
        doc.says(27, "- `index`: its index in the way, from 0");
        Check.due("index 0", 1, () -> s.way(10, 0));
        Check.due("index 1", 1, () -> s.way(10, 1));
        doc.says(27, "Returns the position.");
        Check.due("position 0", 0, () -> s.way(4, 1));
        Check.due("position 15", 15, () -> Check.explored("=A" + "[1]{}".repeat(15) + "[2]{.3}", 1).way(3, 0));
        String row = "=A[1]{?x<9{x+1}{x=0?y<9{y+1}{y=0z+1}}}[2]{}[3?x=9&y=9&z=2]{.1}";
        BranchingStory far = Check.explored(row, 300);
        Check.due("299 choices and one", 300, () -> far.wayLength(1));
        Check.due("the first", 0, () -> far.way(1, 0));
        Check.due("the last but one", 0, () -> far.way(1, 298));
        Check.due("the last", 2, () -> far.way(1, 299));
        Check.index("behind it", () -> far.way(1, 300));
        noOutcome(27, "way ", " 0");
        noOutcome(27, "way ", " -1");
        notExplored(27, "way 4 0", "way 0 -1", "way 11 " + MAX);
        doc.says(27, "Throws `IndexOutOfBoundsException` if the way has no such index, or there is none");
        for (int index : new int[] {-1, 2, 3, 300, MIN, MAX}) {
            Calls.refusedIndex("way 4 " + index, SMALL, "build", "explore 30");
            Calls.refusedIndex("way 11 " + index, SMALL, "build", "start", "choose 0", "explore 30", "analyze");
        }
        for (int index : new int[] {-1, 0, 1, MIN, MAX}) {
            Calls.refusedIndex("way 0 " + index, SMALL, "build", "explore 30");
            Calls.refusedIndex("way 10 " + index, "=A", "build", "explore 30");
            // The latest exploration did not get there.
            Calls.refusedIndex("way 4 " + index, SMALL, "build", "explore 30", "explore 1");
        }
    }

    private void outcomes() {
        doc.says(28, "Returns how many flows had an outcome, by the latest exploration.");
        BranchingStory s = Check.explored("=A[1]{x+1}[2]{.1}[3]{.1}[4]{<}", 300);
        Check.due("two in each of ten states", 20, () -> s.outcomes(1));
        Check.due("one in each", 10, () -> s.outcomes(10));
        s.explore(3);
        Check.due("two in each of three states", 6, () -> s.outcomes(1));
        doc.says(28, "- `outcome`: 0 to 11");
        Check.due("0", 1, () -> Check.explored("=A.0", 1).outcomes(0));
        Check.due("11", 1, () -> Check.explored("=A>A", 1).outcomes(11));
        doc.says(28, "Returns the number.");
        for (int i = 0; i < 12; i++) {
            int outcome = i;
            Check.due("outcome " + i, 0, () -> Check.explored("=A[1]{}", 1).outcomes(outcome));
        }
        // 15 flows in each of 300 states; the 16th choice leads from state to state.
        BranchingStory many = Check.explored("=A[0]{?x<9{x+1}{x=0?y<9{y+1}{y=0z+1}}}" + "[1]{.1}".repeat(15), 300);
        Check.due("15 in each of 300 states", 4500, () -> many.outcomes(1));
        noOutcome(28, "outcomes ", "");
        notExplored(28, "outcomes 0", "outcomes 11");
    }

    private void occurred() {
        doc.says(29, "Tells whether something occurred in a flow, by the latest exploration.");
        BranchingStory s = Check.explored("=A 1[1]{>B}=B 2[2]{>C}=C 3[3]{}", 2);
        Check.isTrue("line 3 behind two states", () -> s.occurred(0, 3));
        Check.isTrue("node C behind two states", () -> s.occurred(1, 2));
        Check.isTrue("choice 2 behind two states", () -> s.occurred(2, 2));
        Check.isTrue("choice 0 in an earlier flow", () -> s.occurred(2, 0));
        Check.isTrue("node A in an earlier flow", () -> s.occurred(1, 0));
        Check.isTrue("line 1 in an earlier flow", () -> s.occurred(0, 1));
        s.explore(1);
        Check.isFalse("line 3 behind one", () -> s.occurred(0, 3));
        Check.isFalse("node C behind one", () -> s.occurred(1, 2));
        Check.isFalse("choice 2 behind one", () -> s.occurred(2, 2));
        Check.isTrue("line 2 behind one", () -> s.occurred(0, 2));
        occurredLate();
        doc.says(29, "2: a choice was offered when a flow ended with the status 1");
        BranchingStory t = Check.explored("=A[1]{[4]{}.1}[2]{[5]{}<}[3]{[6]{}>B}[7?a]{}=B 9>B", 300);
        int[] offered = {1, 0, 1, 0, 1, 0, 0};
        for (int i = 0; i < offered.length; i++) {
            int choice = i;
            Check.due("choice " + i, offered[i], () -> t.occurred(2, choice));
        }
        Check.isTrue("a line before a loop", () -> t.occurred(0, 9));
        Check.isTrue("a node of a loop", () -> t.occurred(1, 1));
        Check.isFalse("withdrawn by a jump", () -> Check.explored("=A[1]{}>B=B[2]{}", 9).occurred(2, 0));
        Check.isTrue("offered behind a jump", () -> Check.explored("=A[1]{}>B=B[2]{}", 9).occurred(2, 1));
        doc.says(29, "- `number`: the number of the line (0 to 99), the node, or the choice");
        BranchingStory u = Check.explored("=A 0 99>L=B=C=D=E=F=G=H=I=J=K=L" + "[1]{}".repeat(16), 1);
        for (int i = 0; i < 100; i++) {
            int line = i;
            Check.due("line " + i, i == 0 || i == 99 ? 1 : 0, () -> u.occurred(0, line));
        }
        for (int i = 0; i < 12; i++) {
            int node = i;
            Check.due("node " + i, i == 0 || i == 11 ? 1 : 0, () -> u.occurred(1, node));
        }
        for (int i = 0; i < 16; i++) {
            int choice = i;
            Check.isTrue("choice " + i, () -> u.occurred(2, choice));
        }
        doc.says(29, "Returns true if it did.");
        Check.isTrue("it did", () -> Check.explored("=A 5", 1).occurred(0, 5));
        Check.isFalse("it did not", () -> Check.explored("=A 5", 1).occurred(0, 6));
        // What the play has done is no flow of the exploration, and of a former story nothing is left.
        BranchingStory v = Check.started("=A[1]{>B}=B 0 5 99[2]{}");
        v.explore(300);
        Check.type(v, "=A[1]{}=B 0 5 99[2]{}");
        v.build();
        v.explore(300);
        for (int line : new int[] {0, 5, 99}) {
            Check.isFalse("the former story's line " + line, () -> v.occurred(0, line));
        }
        Check.isFalse("the former story's node", () -> v.occurred(1, 1));
        Check.isFalse("the former story's choice", () -> v.occurred(2, 1));
    }

    /** However much has occurred before: in one flow, and in many. */
    private void occurredLate() {
        BranchingStory flow = Check.explored("=A?x<9{x+1" + " 1".repeat(12) + ">A}7[1]{8>B}=B 9", 9);
        for (int line = 7; line <= 9; line++) {
            int number = line;
            Check.isTrue("behind 108 lines, line " + line, () -> flow.occurred(0, number));
        }
        BranchingStory many = Check.explored(
                "=A" + " 1".repeat(40) + "[1?x<9]{x+1}[2?y<9]{y+1}[3?x=9&y=9]{42>B}=B 43[4]{44}", 300);
        Check.due("all states were found", 101, () -> Check.explored(
                "=A[1?x<9]{x+1}[2?y<9]{y+1}[3?x=9&y=9]{42>B}=B 43[4]{44}", 300).explore(300));
        for (int line = 42; line <= 44; line++) {
            int number = line;
            Check.isTrue("behind 7,000 lines, line " + line, () -> many.occurred(0, number));
        }
        Check.isTrue("node B behind all others", () -> many.occurred(1, 1));
        Check.isTrue("choice 3 behind all others", () -> many.occurred(2, 3));
        Check.isFalse("a line that is nowhere", () -> many.occurred(0, 45));
    }

    private void occurredFails() {
        doc.says(29, "Throws `IllegalArgumentException` if what is out of range");
        for (int what : new int[] {-1, 3, 4, MIN, MAX}) {
            Calls.refusedArgument("occurred " + what + " 0", "");
            Calls.refusedArgument("occurred " + what + " 0", SMALL, "build");
            Calls.refusedArgument("occurred " + what + " 0", SMALL, "build", "explore 9");
            Calls.refusedArgument("occurred " + what + " -1", SMALL, "build", "explore 9");
        }
        notExplored(29, "occurred 0 0", "occurred 1 0", "occurred 2 0", "occurred 0 100", "occurred 1 -1", "occurred 2 " + MAX);
        doc.says(29, "Throws `IndexOutOfBoundsException` if there is no such line, node or choice");
        for (String call : new String[] {"0 -1", "0 100", "0 " + MIN, "0 " + MAX, "1 -1", "1 4", "1 12", "1 " + MIN, "1 " + MAX,
            "2 -1", "2 5", "2 16", "2 " + MIN, "2 " + MAX}) {
            Calls.refusedIndex("occurred " + call, SMALL, "build", "start", "choose 0", "explore 30");
        }
        BranchingStory s = Check.explored(SMALL, 30);
        Check.isFalse("line 99", () -> s.occurred(0, 99));
        Check.isTrue("node 3", () -> s.occurred(1, 3));
        Check.isTrue("choice 4", () -> s.occurred(2, 4));
        Calls.refusedIndex("occurred 2 0", "=A", "build", "explore 1");
    }
}
