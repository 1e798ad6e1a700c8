/** The sentences on analyzing: promises 30 to 37. */
final class AnalyzeEdges {
    private static final int MIN = Integer.MIN_VALUE;
    private static final int MAX = Integer.MAX_VALUE;
    private static final int NO_HUB = 1 << 12;
    // Three nodes, of which the last is not reached, three choices and two tests.
    private static final String SMALL = "=A#7?a{}[1]{x+1>B}[2?a]{.4}=B?x<9{}[3]{<}=C.5";

    private final Doc doc;

    AnalyzeEdges(Doc doc) {
        this.doc = doc;
    }

    void check() {
        knowledge();
        unions();
        entries();
        entriesOfHubs();
        setsOfChoices();
        plainStatements();
        meterStatements();
        partsOfMeters();
        partsOfFlags();
        severalTerms();
        nothing();
        tests();
        behindTests();
        choices();
        certain();
        jumps();
        returns();
        endings();
        endsOfBlocks();
        noCertainChoices();
        inTheEnd();
        analyze();
        isReached();
        ranges();
        values();
        hubs();
        verdict();
        possible();
    }

    private static void range(String text, int node, int low, int high) {
        BranchingStory s = Check.analyzed(text);
        Check.due("lowest x at " + node + " in " + text, low, () -> s.lowest(node, 0));
        Check.due("greatest x at " + node + " in " + text, high, () -> s.greatest(node, 0));
    }

    private static void possible(String text, int endings, int deadEnds) {
        BranchingStory s = Check.analyzed(text);
        Check.due("endings of " + text, endings, () -> s.possible(0));
        Check.due("dead ends of " + text, deadEnds, () -> s.possible(1));
    }

    private static void reached(String text, String nodes, String choices) {
        BranchingStory s = Check.analyzed(text);
        for (int i = 0; i < nodes.length(); i++) {
            int node = i;
            Check.due("node " + i + " of " + text, nodes.charAt(i) - '0', () -> s.isReached(0, node));
        }
        for (int i = 0; i < choices.length(); i++) {
            int choice = i;
            Check.due("choice " + i + " of " + text, choices.charAt(i) - '0', () -> s.isReached(1, choice));
        }
    }

    private void knowledge() {
        doc.says(0, "The analysis works with knowledge.");
        // The exploration knows that x is never 3; the analysis knows a range alone.
        possible("=A[1]{x+2}[2?x=3]{.1}[3]{?x=3{.2}}", 6, 0);
        doc.says(0, "Knowledge is either nothing (this place is not reached), or consists of a range for each meter");
        BranchingStory s = Check.analyzed("=A[1]{x+1y=4+b>B}[2]{z=9>B}=B#>C=C=D");
        for (int i = 0; i < 3; i++) {
            int meter = i;
            Check.due("lowest of nothing", -1, () -> s.lowest(3, meter));
            Check.due("greatest of nothing", -1, () -> s.greatest(3, meter));
            Check.due("lowest", 0, () -> s.lowest(2, meter));
        }
        int[] greatest = {1, 4, 9};
        for (int i = 0; i < 3; i++) {
            int meter = i;
            Check.due("greatest of meter " + i, greatest[i], () -> s.greatest(2, meter));
        }
        for (int i = 0; i < 6; i++) {
            int flag = i;
            Check.due("values of nothing", 0, () -> s.values(3, flag));
            Check.due("values of flag " + i, i == 1 ? 3 : 1, () -> s.values(2, flag));
        }
        Check.due("hubs of nothing", 0, () -> s.hubs(3));
        Check.due("hubs", 2, () -> s.hubs(2));
        Check.due("having none", NO_HUB, () -> s.hubs(1));
        // Each part of it has its own place: what one of them is does not show in another.
        for (int i = 0; i < 3; i++) {
            knows("=A" + (char) ('x' + i) + "=9>B=B", 1, i, -1, NO_HUB);
        }
        for (int i = 0; i < 6; i++) {
            knows("=A+" + (char) ('a' + i) + ">B=B", 1, -1, i, NO_HUB);
            knows("=A#+" + (char) ('a' + i) + ">B=B", 1, -1, i, 1);
        }
        for (int i = 0; i < 11; i++) {
            String nodes = "=A>" + (char) ('A' + i) + "=B=C=D=E=F=G=H=I=J=K=L";
            String hub = i == 0 ? "=A#>L=B=C=D=E=F=G=H=I=J=K=L"
                    : nodes.replace("=" + (char) ('A' + i), "=" + (char) ('A' + i) + "#>L");
            knows(hub, 11, -1, -1, 1 << i);
        }
    }

    /** At this node one meter is 9, one flag is 1 (-1: none of them), all others are 0. */
    private static void knows(String text, int node, int meter, int flag, int hubs) {
        BranchingStory s = Check.analyzed(text);
        for (int i = 0; i < 3; i++) {
            int asked = i;
            Check.due("lowest " + i + " in " + text, i == meter ? 9 : 0, () -> s.lowest(node, asked));
            Check.due("greatest " + i + " in " + text, i == meter ? 9 : 0, () -> s.greatest(node, asked));
        }
        for (int i = 0; i < 6; i++) {
            int asked = i;
            Check.due("values " + i + " in " + text, i == flag ? 2 : 1, () -> s.values(node, asked));
        }
        Check.due("hubs in " + text, hubs, () -> s.hubs(node));
    }

    private void unions() {
        doc.says(0, "The union of nothing and other knowledge is this other knowledge; otherwise the union has the lowest one");
        range("=Ax=5>B=B", 1, 5, 5);
        for (int v = 0; v <= 9; v++) {
            for (int w = 0; w <= 9; w++) {
                range("=A[1]{x=" + v + ">B}[2]{x=" + w + ">B}=B", 1, Math.min(v, w), Math.max(v, w));
            }
        }
        range("=A[1]{x=4>B}[2]{x=2>B}[3]{x=7>B}=B", 1, 2, 7);
        BranchingStory s = Check.analyzed("=A[1]{+a-b>B}[2]{+b>B}[3]{+c>B}[4]{+c>C}=B=C");
        int[] atB = {3, 3, 3, 1, 1, 1};
        int[] atC = {1, 1, 2, 1, 1, 1};
        for (int i = 0; i < 6; i++) {
            int flag = i;
            Check.due("flag " + i + " at B", atB[i], () -> s.values(1, flag));
            Check.due("flag " + i + " at C", atC[i], () -> s.values(2, flag));
        }
        BranchingStory hubs = Check.analyzed("=A[1]{>B}[2]{>C}[3]{>D}=B#>D=C#>D=D");
        Check.due("both hubs and none", NO_HUB + 2 + 4, () -> hubs.hubs(3));
    }

    private void entries() {
        doc.says(0, "There is an entry for each node and for each choice, which is knowledge, at first nothing");
        BranchingStory s = Check.analyzed("=L=A[1]{}");
        for (int i = 0; i < 3; i++) {
            int meter = i;
            Check.due("lowest", 0, () -> s.lowest(0, meter));
            Check.due("greatest", 0, () -> s.greatest(0, meter));
        }
        for (int i = 0; i < 6; i++) {
            int flag = i;
            Check.due("flag " + i, 1, () -> s.values(0, flag));
        }
        Check.due("no hub", NO_HUB, () -> s.hubs(0));
        Check.isTrue("the first node", () -> s.isReached(0, 0));
        Check.isFalse("the second node", () -> s.isReached(0, 1));
        Check.isFalse("its choice", () -> s.isReached(1, 0));
        // The first one has it also if it is not come back to, or is a hub.
        Check.due("a hub", NO_HUB, () -> Check.analyzed("=A#.1").hubs(0));
        range("=Ax=5>B=Bx=7>A", 0, 0, 7);
    }

    private void entriesOfHubs() {
        doc.says(0, "where for a hub the set of present hubs first becomes just this hub (not for a choice in it)");
        BranchingStory s = Check.analyzed("=A#>B=B#>C=C");
        Check.due("behind A", 1, () -> s.hubs(1));
        Check.due("behind B", 2, () -> s.hubs(2));
        // The entry of a choice in the hub B has what was known behind B's block; a choice in it is no hub.
        BranchingStory t = Check.analyzed("=A>B=B#[1]{>C}=C");
        Check.due("behind a choice in B", 2, () -> t.hubs(2));
        // Knowledge of several hubs comes to a choice of a node and stays, though the choice stands in none.
        BranchingStory u = Check.analyzed("=A#[1]{>C}[2]{>B}=B#>C=C[3]{>D}=D");
        Check.due("behind a choice in C", 1 + 2, () -> u.hubs(3));
        BranchingStory v = Check.analyzed("=A>L=B=C=D=E=F=G=H=I=J=K=L#>B");
        Check.due("the twelfth node", 1 << 11, () -> v.hubs(1));
        doc.says(0, "The following is repeated until no entry changes any more");
        // As many turns as there are values, and a chain of nodes against the order of the text.
        range("=A[1]{x+1}", 0, 0, 9);
        range("=Ax=9>B=B[1]{x-1}", 1, 0, 9);
        Check.due("a chain", 12, () -> Check.built("=A>L=B=C>B=D>C=E>D=F>E=G>F=H>G=I>H=J>I=K>J=L>K").analyze());
        BranchingStory slow = Check.analyzed("=A[1]{?x=9{?y=9{?z=9{.1}{z+1}}{y+1}}{x+1}}");
        Check.due("x, then y, then z, and then the ending", 2, () -> slow.possible(0));
        Check.due("z", 9, () -> slow.greatest(0, 2));
    }

    private void setsOfChoices() {
        doc.says(0, "With the present knowledge go two sets of choices, the offered ones and the certain ones, at first empty.");
        // A jump leaves them behind: in B there is neither an offered choice nor a certain one.
        reached("=A[1]{.1}>B=B", "11", "0");
        possible("=A[1]{.1}>B=B", 0, 2);
        // The block of a choice begins without those that were offered with it.
        reached("=A[1]{>B}[2]{[3]{.1}}=B", "11", "111");
        range("=A[1]{x=5}[2]{}", 0, 0, 5);
    }

    private void plainStatements() {
        doc.says(0, "- A number changes nothing.");
        range("=A 5 99>B=B", 1, 0, 0);
        possible("=A 1 2[1]{}3", 0, 0);
        doc.says(0, "+ and - leave the flag only one possible value.");
        for (int i = 0; i < 6; i++) {
            int flag = i;
            char letter = "abcdef".charAt(i);
            String both = "=A[1]{+" + letter + ">B}[2]{>B}=B";
            Check.due("both", 3, () -> Check.analyzed(both).values(1, flag));
            Check.due("+", 2, () -> Check.analyzed(both + "+" + letter + ">C=C").values(2, flag));
            Check.due("-", 1, () -> Check.analyzed(both + "-" + letter + ">C=C").values(2, flag));
            Check.due("+ and -", 1, () -> Check.analyzed(both + "+" + letter + "-" + letter + ">C=C").values(2, flag));
        }
    }

    private void meterStatements() {
        doc.says(0, "A meter with =, + or - changes its lowest and its greatest value like a value of the meter.");
        for (int low = 0; low <= 9; low += 3) {
            for (int high = low; high <= 9; high += 3) {
                String text = "=A[1]{x=" + low + ">B}[2]{x=" + high + ">B}=Bx";
                for (int digit = 0; digit <= 9; digit++) {
                    range(text + "=" + digit + ">C=C", 2, digit, digit);
                    range(text + "+" + digit + ">C=C", 2, Math.min(9, low + digit), Math.min(9, high + digit));
                    range(text + "-" + digit + ">C=C", 2, Math.max(0, low - digit), Math.max(0, high - digit));
                }
            }
        }
        BranchingStory s = Check.analyzed("=Ay+9y+9z=4z-9>B=B");
        int[] want = {0, 9, 0};
        for (int i = 0; i < 3; i++) {
            int meter = i;
            Check.due("lowest of " + i, want[i], () -> s.lowest(1, meter));
            Check.due("greatest of " + i, want[i], () -> s.greatest(1, meter));
        }
    }

    /** Checks both parts of a term over a range: C is entered with the true part, D with the false one. */
    private static void parts(int low, int high, String term, int[] yes, int[] no) {
        String text = "=A[1]{x=" + low + ">B}[2]{x=" + high + ">B}=B?" + term + "{>C}{>D}=C=D";
        range(text, 2, yes[0], yes[1]);
        range(text, 3, no[0], no[1]);
        int verdict = (yes[0] >= 0 ? 1 : 0) + (no[0] >= 0 ? 2 : 0);
        Check.due("verdict in " + text, verdict, () -> Check.analyzed(text).verdict(0));
    }

    private static int[] orNothing(int low, int high) {
        return low > high ? new int[] {-1, -1} : new int[] {low, high};
    }

    private void partsOfMeters() {
        doc.says(0, "- A condition has a true part and a false part of knowledge.");
        parts(2, 6, "x<4", new int[] {2, 3}, new int[] {4, 6});
        doc.says(0, "for < the greatest value becomes at most the digit - 1, for > the lowest value becomes at least the digit + 1");
        // The last digit with which there is a true part, and the first without one.
        parts(2, 6, "x<3", new int[] {2, 2}, new int[] {3, 6});
        parts(2, 6, "x<2", new int[] {-1, -1}, new int[] {2, 6});
        parts(2, 6, "x>5", new int[] {6, 6}, new int[] {2, 5});
        parts(2, 6, "x>6", new int[] {-1, -1}, new int[] {2, 6});
        parts(2, 6, "x=2", new int[] {2, 2}, new int[] {3, 6});
        parts(2, 6, "x=1", new int[] {-1, -1}, new int[] {2, 6});
        parts(2, 6, "x=6", new int[] {6, 6}, new int[] {2, 5});
        parts(2, 6, "x=7", new int[] {-1, -1}, new int[] {2, 6});
        parts(0, 9, "x<0", new int[] {-1, -1}, new int[] {0, 9});
        parts(0, 9, "x>9", new int[] {-1, -1}, new int[] {0, 9});
        doc.says(0, "for = the lowest value increases by 1 if it is the digit, and then the greatest value decreases by 1");
        parts(2, 6, "x<6", new int[] {2, 5}, new int[] {6, 6});
        parts(2, 6, "x<7", new int[] {2, 6}, new int[] {-1, -1});
        parts(2, 6, "x>2", new int[] {3, 6}, new int[] {2, 2});
        parts(2, 6, "x>1", new int[] {2, 6}, new int[] {-1, -1});
        parts(4, 4, "x=4", new int[] {4, 4}, new int[] {-1, -1});
        parts(4, 5, "x=4", new int[] {4, 4}, new int[] {5, 5});
        parts(4, 5, "x=5", new int[] {5, 5}, new int[] {4, 4});
        parts(2, 6, "x=4", new int[] {4, 4}, new int[] {2, 6});
        parts(0, 0, "x=0", new int[] {0, 0}, new int[] {-1, -1});
        parts(9, 9, "x=9", new int[] {9, 9}, new int[] {-1, -1});
        for (int low = 0; low <= 9; low++) {
            for (int high = low; high <= 9; high++) {
                for (int d = 0; d <= 9; d++) {
                    parts(low, high, "x<" + d, orNothing(low, Math.min(high, d - 1)), orNothing(Math.max(low, d), high));
                    parts(low, high, "x>" + d, orNothing(Math.max(low, d + 1), high), orNothing(low, Math.min(high, d)));
                    parts(low, high, "x=" + d, orNothing(Math.max(low, d), Math.min(high, d)),
                            orNothing(low == d ? low + 1 : low, high == d ? high - 1 : high));
                }
            }
        }
    }

    private void partsOfFlags() {
        doc.says(0, "The true part is the knowledge narrowed by each term in order: a flag has only the value that the term needs");
        String[] before = {"[1]{>B}", "[1]{+f>B}", "[1]{>B}[2]{+f>B}"};
        for (int set = 1; set <= 3; set++) {
            BranchingStory s = Check.analyzed("=A" + before[set - 1] + "=B?f{>C}{>D}=C=D");
            BranchingStory not = Check.analyzed("=A" + before[set - 1] + "=B?!f{>C}{>D}=C=D");
            int known = set;
            Check.due("known", known, () -> s.values(1, 5));
            Check.due("f", known & 2, () -> s.values(2, 5));
            Check.due("f, the false part", known & 1, () -> s.values(3, 5));
            Check.due("not f", known & 1, () -> not.values(2, 5));
            Check.due("not f, the false part", known & 2, () -> not.values(3, 5));
            Check.due("verdict on f", (known & 2) / 2 + 2 * (known & 1), () -> s.verdict(0));
            Check.due("verdict on not f", (known & 1) + (known & 2), () -> not.verdict(0));
        }
        // Several terms, one behind the other.
        String any = "=A[1]{x+1}[3]{+a}[4]{y+1}[2]{";
        range(any + "?x>2&x<7{>B}}=B", 1, 3, 6);
        range(any + "?x<7&a&x>2&y=3{>B}}=B", 1, 3, 6);
        Check.due("a in the true part", 2, () -> Check.analyzed(any + "?x<7&a&x>2&y=3{>B}}=B").values(1, 0));
        Check.due("y in the true part", 3, () -> Check.analyzed(any + "?x<7&a&x>2&y=3{>B}}=B").lowest(1, 1));
        range(any + "?x>4&x=5&x<6{>B}}=B", 1, 5, 5);
        range(any + "?x>4&x<5{>B}}=B", 1, -1, -1);
    }

    private void severalTerms() {
        doc.says(0, "The false part is the knowledge as it is if the condition has several terms.");
        // x is 0 and a is 0: each term alone would leave nothing.
        for (String condition : new String[] {"x<1&x<1", "!a&!b", "x=0&!a", "x<5&x<6", "!a&!a"}) {
            BranchingStory s = Check.analyzed("=A?" + condition + "{>B}{>C}=B=C");
            Check.due("verdict on " + condition, 3, () -> s.verdict(0));
            Check.isTrue("both are reached", () -> s.isReached(0, 2));
        }
        for (String condition : new String[] {"x>1&x<1", "a&!a", "x=1&!a"}) {
            BranchingStory s = Check.analyzed("=A?" + condition + "{>B}{>C}=B=C");
            Check.due("verdict on " + condition, 2, () -> s.verdict(0));
            Check.isFalse("the true part is nothing", () -> s.isReached(0, 1));
        }
        range("=A[1]{x+1}[2]{?x>3&x<9{}{>B}}=B", 1, 0, 9);
        Check.due("one term", 1, () -> Check.analyzed("=A?x<1{>B}{>C}=B=C").verdict(0));
    }

    private void nothing() {
        doc.says(0, "If a flag has no possible value any more, or a lowest value is above the greatest one, it is nothing.");
        String any = "=A[1]{x+1}[3]{+a}[4]{z+1}[2]{?";
        String[] nothing = {"a&!a", "!a&a", "x<0", "x>9", "x<5&x>4", "x=4&x=5", "x>8&x<9", "z<0", "z=0&x=1&z=1", "b", "y>0"};
        for (String condition : nothing) {
            reached(any + condition + "{>B}{>C}}=B=C", "101", "");
        }
        String[] some = {"a&a", "!a&!a", "x<1", "x>8", "x<6&x>4", "x=4&x=4", "x>8&x>7", "z<1", "!b", "y<1"};
        for (String condition : some) {
            reached(any + condition + "{>B}}=B", "11", "");
        }
    }

    private void tests() {
        doc.says(0, "- A test: its first block is gone through with the true part, its second one with the false part");
        String any = "=A[1]{x+1}[2]{";
        range(any + "?x<4{>B}{>C}}=B=C", 1, 0, 3);
        range(any + "?x<4{>B}{>C}}=B=C", 2, 4, 9);
        // No second block: the false part stays as it is.
        range(any + "?x<4{>B}>C}=B=C", 2, 4, 9);
        range(any + "?x<4{.1}{}>B}=B", 1, 4, 9);
        range(any + "?x<4{}{.1}>B}=B", 1, 0, 3);
        // Both blocks begin with the choices that were offered before the test.
        reached("=A[9]{+a>B}[8]{>B}=B[1]{>C}?a{.1}{}=C", "111", "111");
        reached("=A[9]{+a>B}[8]{>B}=B[1]{>C}?a{}{.1}=C", "111", "111");
        possible("=A[9]{+a>B}[8]{>B}=B[1]{.2}?a{}{}", 4, 0);
        // Also with those that are not certain: they stay offered, and do not become certain.
        for (String head : new String[] {"=A#[1]{}", "=A[1?!a&x<9]{}"}) {
            for (String test : new String[] {"?a{5}{6}", "?!a{5}{6}", "?a{5}", "?!a{5}", "?!b{?a{5}{6}}"}) {
                reached(head + test, "1", "1");
                possible(head + test, 0, 1);
            }
        }
        // And with those that are: they stay certain.
        for (String test : new String[] {"?a{5}{6}", "?!a{5}{6}", "?a{5}", "?!a{5}", "?!b{?a{5}{6}}"}) {
            reached("=A[1]{}" + test, "1", "1");
            possible("=A[1]{}" + test, 0, 0);
        }
        // What is offered in the first block is not offered in the second one.
        reached("=A[9]{+a>B}[8]{>B}=B?a{[1]{>C}.1}{[2]{}}=C", "110", "1101");
    }

    private void behindTests() {
        doc.says(0, "Then the knowledge is the union of what both lead to, the offered ones are the union of both sets");
        String any = "=A[9]{+a>B}[8]{>B}=B";
        range(any + "?a{x=3}{x=6}>C=C", 2, 3, 6);
        range(any + "?a{x=3}>C=C", 2, 0, 3);
        Check.due("the flag can be both again", 3, () -> Check.analyzed(any + "?a{1}{2}>C=C").values(2, 0));
        reached(any + "?a{[1]{}}{[2]{}}", "11", "1111");
        // Also those that are not certain.
        String hub = "=A[9]{+a>B}[8]{>B}=B#";
        reached(hub + "?a{[1]{}}{[2]{}}", "11", "1111");
        reached(hub + "?a{[1]{}}{5}", "11", "111");
        reached(hub + "?a{5}{[1]{}}", "11", "111");
        reached(hub + "[3]{}?a{[1]{}}{[2]{}}", "11", "11111");
        reached(any + "?a{[1?x<9&a]{}}{[2?x<9&!a]{}}", "11", "1111");
        possible(hub + "?a{[1]{}}{[2]{}}", 0, 2);
        // Certain is what is certain in both blocks: one and the same choice stands before the test.
        possible(any + "?a{[1]{}}{[2]{}}", 0, 2);
        possible(any + "[3]{}?a{[1]{}}{[2]{}}", 0, 0);
        possible(any + "?a{[1]{}}", 0, 2);
        // If one of them leads to nothing, all is that of the other one.
        range(any + "?a{x=3>D}{x=6}>C=C=D", 2, 6, 6);
        range(any + "?a{x=3}{x=6.1}>C=C", 2, 3, 3);
        possible(any + "?a{[1]{}}{.1}", 2, 0);
        possible(any + "?a{<}{[1]{}}", 0, 2);
        possible("=A#[9]{+a>B}[8]{>B}=B?a{<}{[1]{}}", 0, 1);
        possible("=A?a{}{[1]{}}", 0, 0);
        possible("=A?!a{[1]{}}{}", 0, 0);
        possible("=A?!a{}{[1]{}}", 0, 1);
        reached(any + "?a{[1]{}>C}{[2]{}}=C", "111", "1101");
        // A test at the end of a block that leads to nothing takes along what was offered in this block.
        reached(any + "?a{[1]{}?a{.1}}", "11", "110");
        reached(any + "?a{}{[1]{}?a{}{.1}}", "11", "110");
        reached(any + "?a{[1]{}?a{?a{.1}}}{[2]{}}", "11", "1101");
        // If both do, nothing is left.
        reached(any + "?a{.1}{.2}[1]{>C}=C", "110", "110");
        possible(any + "?a{.1}{.2}.3", 6, 0);
    }

    private void choices() {
        doc.says(0, "- A choice: if it has no condition, or the true part of its condition is not nothing, it is offered.");
        reached("=A[1]{}[2?a]{}[3?!a]{}[4?x>0]{}[5?x<1]{}[6?x=0&a]{}[7?x=0&!a]{}", "1", "1010101");
        // The last value with which it is offered.
        reached("=A[1]{x+4}[2?x>8]{}[3?x=9]{}[4?y>0]{}", "1", "1110");
        reached("=Ax=5>B=B[1]{}[2?x<5]{}[3?x<6]{}[4?x>4]{}[5?x>5]{}", "11", "10110");
        doc.says(0, "The knowledge stays as it is.");
        range("=A[1]{x+1}[2?x=5]{>B}=B", 1, 0, 9);
        range("=A[1]{x+1}[2]{[3?x=5]{}>B}=B", 1, 0, 9);
        Check.due("the flag", 3, () -> Check.analyzed("=A[1]{+a}[2?a]{>B}=B").values(1, 0));
    }

    private void certain() {
        doc.says(0, "It is certain if it is offered, does not stand in a hub, and has no condition, or one whose false part is nothing.");
        possible("=A[1]{}", 0, 0);
        possible("=A#[1]{}", 0, 1);
        possible("=A#[1]{}[2]{}>B=B[3]{}", 0, 0);
        possible("=A[1?a]{}", 0, 1);
        possible("=A[1?!a]{}", 0, 0);
        possible("=A[1?!a]{+a}", 0, 1);
        possible("=A[1?x<1]{}", 0, 0);
        possible("=A[1?x=0]{}", 0, 0);
        possible("=A[1?x=1]{}", 0, 1);
        possible("=A[1?x<9]{x+1}", 0, 1);
        possible("=A[1?x<9]{x+1}[2]{}", 0, 0);
        possible("=A[1?!a&!b]{}", 0, 1);
        possible("=A[1]{x+1}[2?x<5]{}[3?x>4]{}", 0, 0);
        possible("=A>B=B[2?x<5]{x+1}[3?x>4]{}", 0, 2);
        // Under a hub, but in a node that is none.
        possible("=A#>B=B[1]{}", 0, 0);
        // Under no hub, in a hub's choice: the node is entered again, as the inner one is not certain.
        range("=A#[1]{x=5[2]{>B}}=B", 0, 0, 5);
        range("=A[1]{x=5[2]{>B}}=B", 0, 0, 0);
    }

    private void jumps() {
        doc.says(0, "- > and a name: the entry of this node becomes the union of it and the knowledge.");
        range("=Ax=5>B=B", 1, 5, 5);
        range("=Ax=5?x<9&y<9{x=7>B}>B=B", 1, 5, 7);
        range("=A[1]{x=3>A}", 0, 0, 3);
        // The name counts, not its place in the alphabet.
        reached("=L>A=C=A", "101", "");
        doc.says(0, "The knowledge is nothing then.");
        reached("=A>B>C=B=C", "110", "");
        reached("=A>B[1]{}=B", "11", "0");
        possible("=A>B.1=B.2", 4, 0);
        Check.due("a test behind it", 0, () -> Check.analyzed("=A>B?a{}=B").verdict(0));
    }

    private void returns() {
        doc.says(0, "< does this for each possible present hub; if none is also possible, there is a possible dead end in this node.");
        possible("=A<", 0, 1);
        possible("=A#<", 0, 0);
        possible("=A>B=B<", 0, 2);
        possible("=A>B=B[1]{<}", 0, 2);
        possible("=A[1]{>B}[2]{>C}=B#>C=Cx=3<", 0, 4);
        range("=A[1]{>B}[2]{>C}=B#>C=Cx=3<", 1, 0, 3);
        possible("=A[1]{>B}[2]{>C}=B=C<", 0, 6);
        // The first node and the last one as hubs.
        range("=A#[1]{x=5<}", 0, 0, 5);
        range("=A>L=B=C=D=E=F=G=H=I=J=K=L#[1]{x=5<}", 11, 0, 5);
        // Each of two hubs, and no other.
        String two = "=A[1]{>B}[2]{>C}=B#>E=C#>E=D#=Ex=3<";
        range(two, 1, 0, 3);
        range(two, 2, 0, 3);
        range(two, 3, -1, -1);
        range(two, 0, 0, 0);
        possible(two, 0, 0);
        // The knowledge has all of the hubs.
        BranchingStory s = Check.analyzed(two);
        Check.due("at B", NO_HUB + 2 + 4, () -> s.hubs(1));
        Check.due("at C", NO_HUB + 2 + 4, () -> s.hubs(2));
        Check.due("at E", 2 + 4, () -> s.hubs(4));
        // The knowledge is nothing then.
        reached("=A#<[1]{}", "1", "0");
        possible("=A<.1", 0, 1);
        possible("=A>L=B<=C=D=E=F=G=H=I=J=K=L#>B", 0, 0);
    }

    private void endings() {
        doc.says(0, ". and a digit: this is a possible ending, and the knowledge is nothing then.");
        for (int i = 0; i <= 9; i++) {
            possible("=A." + i, 1 << i, 0);
            possible("=A[1]{." + i + "}", 1 << i, 0);
        }
        possible("=A.1.2", 2, 0);
        reached("=A.1[1]{}>B=B", "10", "0");
        possible("=A?a{.1}{.2}", 4, 0);
    }

    private void endsOfBlocks() {
        doc.says(0, "if the knowledge is not nothing: the entry of each choice that is offered becomes the union of it and the knowledge.");
        // What is known at the end of the block, not where the choice stands.
        range("=A[1]{>B}x=5=B", 1, 5, 5);
        range("=A?x<1&a{[1]{>B}}{[2]{}}x=5=B", 1, -1, -1);
        range("=A[1]{[2]{>B}x=4}=B", 1, 4, 4);
        // Offered is enough: neither of these is certain.
        reached("=A#[1]{[2]{>B}}=B", "11", "11");
        reached("=A[1]{[2?!a&x<9]{>B}}=B", "11", "11");
        reached("=A#[1]{>B}=B", "11", "1");
        reached("=A[1]{>B}.1=B", "10", "0");
        reached("=A" + "[1]{}".repeat(15) + "[2]{>B}=B", "11", "1111111111111111");
    }

    private void noCertainChoices() {
        doc.says(0, "If there are no certain choices, then for the block of a choice the entry of the node in which it stands");
        range("=A[1]{x=5}", 0, 0, 5);
        range("=A[1]{x=5[2]{.1}}", 0, 0, 0);
        range("=A[1]{x=5[2?a]{.1}}", 0, 0, 5);
        range("=A[1]{x=5[2?y<1]{.1}}", 0, 0, 0);
        range("=A>B=B[1]{x=5}", 1, 0, 5);
        range("=A>B=B[1]{x=5}", 0, 0, 0);
        // The node in which this choice stands, not the first choice's.
        range("=A[1]{>B}=B[2]{x=5}", 0, 0, 0);
        range("=A[1]{>B}=B[2]{x=5}", 1, 0, 5);
        range("=A[1]{>B}=B[2]{[3?a]{}x=5}=C[4]{}", 1, 0, 5);
        possible("=A", 0, 1);
        possible("=A>B=B", 0, 2);
        possible("=A[1]{}", 0, 0);
        possible("=A[1?x<1&!a]{}", 0, 1);
        // At the end of a choice's block there is no dead end.
        possible("=A[1]{x=1}", 0, 0);
        // Nothing at the end: neither.
        possible("=A.1", 2, 0);
        range("=A[1]{x=5.1}", 0, 0, 0);
    }

    private void inTheEnd() {
        doc.says(0, "If the knowledge is nothing, no statement that follows changes anything.");
        reached("=A.1+ax=5[1]{}?a{>B}{>C}>D=B=C=D", "1000", "0");
        possible("=A?!a{.1}.2<", 2, 0);
        Check.due("a test", 0, () -> Check.analyzed("=A.1?a{}").verdict(0));
        Check.due("a test in a block of a true part that is nothing", 0, () -> Check.analyzed("=A?a{?b{}}").verdict(1));
        Check.due("a test in a block of a false part that is nothing", 0, () -> Check.analyzed("=A?!a{}{?b{}}").verdict(1));
        doc.says(0, "What is reached, possible, or offered in the end, when no entry changes any more, is the result.");
        // At first x is 0 and the choice certain; in the end it is not.
        possible("=A[1?x<1]{x+1}", 0, 1);
        Check.due("a verdict that grows", 3, () -> Check.analyzed("=A?x<9{}[1]{x+1}").verdict(0));
        Check.due("a verdict that stays", 1, () -> Check.analyzed("=A?x<9{}[1]{x=8}").verdict(0));
        reached("=A[1]{x+1}[2?x>8]{>B}=B", "11", "11");
        // What is known by an earlier analysis or story does not stay.
        BranchingStory s = Check.analyzed("=A[1]{+ax=5>B}[2]{>C}=B#?b{}?a{.1}>A=C");
        Check.due("endings of the former story", 2, () -> s.possible(0));
        Check.due("its dead ends", 4, () -> s.possible(1));
        Check.due("its verdict", 1, () -> s.verdict(1));
        Check.type(s, "=A?!a{.2}?a{}[1]{}[2]{}=B");
        s.build();
        Check.due("one node", 1, s::analyze);
        Check.due("endings", 4, () -> s.possible(0));
        Check.due("dead ends", 0, () -> s.possible(1));
        Check.isFalse("the former node", () -> s.isReached(0, 1));
        Check.isFalse("the former choice", () -> s.isReached(1, 0));
        Check.due("the former range", 0, () -> s.greatest(0, 0));
        Check.due("the former flag", 1, () -> s.values(0, 0));
        Check.due("the former hub", NO_HUB, () -> s.hubs(0));
        Check.due("a verdict", 0, () -> s.verdict(1));
        s.analyze();
        Check.due("endings again", 4, () -> s.possible(0));
    }

    private static void leavesNothing(String before, String after) {
        Calls fresh = Calls.make(after, "build", "analyze", "explore 9");
        Calls used = Calls.make(before, "build", "analyze", "explore 9", "start", "text " + after, "build", "analyze", "explore 9");
        Check.same(after + " behind " + before, used.all(), fresh.all());
    }

    private void analyze() {
        doc.says(30, "Analyzes the story.");
        Calls one = Calls.make(SMALL, "build", "start", "choose 0", "explore 9", "analyze");
        Calls other = Calls.make(SMALL, "build", "analyze", "explore 9", "start", "choose 0");
        Check.same("it changes neither play nor exploration", one.all(), other.all());
        // Statements at the same places in the text of a former story leave nothing behind.
        String[][] alike = {{"=A[1]{}[2]{}", "=A[1?a]{}[2?a]{}"}, {"=A[1]{}[2]{}", "=A#[1]{}[2]{}"},
            {"=A?!a{[1]{>B}}{5}=B.3", "=A?b{[1]{>B}}{5}=B.3"}, {"=A[1]{[2]{x+1}}", "=A[1]{[2?b]{y-1}}"},
            {"=A#[1]{<}[2]{>B}=B#[3]{<}", "=A[1]{<}[2]{>B}=B[3]{<}"}, {"=A.1=B.2", "=A.3=B.4"}};
        for (String[] pair : alike) {
            leavesNothing(pair[0], pair[1]);
            leavesNothing(pair[1], pair[0]);
        }
        doc.says(30, "Returns the number of nodes whose entry is not nothing.");
        Check.due("one", 1, () -> Check.built("=A=B=C").analyze());
        Check.due("two of three", 2, () -> Check.built(SMALL).analyze());
        // Having no hub is no node.
        Check.due("one without a hub", 1, () -> Check.built("=A<").analyze());
        Check.due("all twelve without a hub", 12, () -> Check.built(
                "=A>B=B>C=C>D=D>E=E>F=F>G=G>H=H>I=I>J=J>K=K>L=L<").analyze());
        Check.due("twelve", 12, () -> Check.built("=A>B=B>C=C>D=D>E=E>F=F>G=G>H=H>I=I>J=J>K=K>L=L").analyze());
        doc.says(30, "Throws `IllegalStateException` if there is no story");
        Calls.refusedState("analyze", "");
        Calls.refusedState("analyze", SMALL);
        Calls.refusedState("analyze", "=A}");
    }

    /** The calls throw while the story is not analyzed: new, built, played, explored, or built anew. */
    private void notAnalyzed(int promise, String... calls) {
        doc.says(promise, "Throws `IllegalStateException` if this story has not been analyzed");
        for (String call : calls) {
            Calls.refusedState(call, "");
            Calls.refusedState(call, SMALL);
            Calls.refusedState(call, SMALL, "build");
            Calls.refusedState(call, SMALL, "build", "start", "choose 0", "explore 9");
            Calls.refusedState(call, SMALL, "build", "analyze", "build");
            Calls.refusedState(call, SMALL, "build", "analyze", "text =A?a{}[1]{}", "build");
        }
    }

    /** An argument that is out of range is refused first, whatever else is wrong. */
    private void outOfRange(int promise, String name, String before, String behind, int first) {
        doc.says(promise, "Throws `IllegalArgumentException` if " + name + " is out of range");
        for (int wrong : new int[] {-1, first, first + 1, 32, MIN, MAX}) {
            String call = before + wrong + behind;
            Calls.refusedArgument(call, "");
            Calls.refusedArgument(call, SMALL, "build");
            Calls.refusedArgument(call, SMALL, "build", "analyze");
        }
    }

    private void noNode(int promise, String before, String behind) {
        doc.says(promise, "Throws `IndexOutOfBoundsException` if there is no such node");
        for (int node : new int[] {-1, 3, 12, 16, MIN, MAX}) {
            Calls.refusedIndex(before + node + behind, SMALL, "build", "start", "choose 0", "explore 9", "analyze");
        }
        Calls.refusedIndex(before + 12 + behind, "=A=B=C=D=E=F=G=H=I=J=K=L", "build", "analyze");
        Calls.refusedIndex(before + 1 + behind, "=A", "build", "analyze");
    }

    private void isReached() {
        doc.says(31, "Tells whether the entry of a node or a choice is not nothing, by the analysis.");
        reached(SMALL, "110", "101");
        doc.says(31, "- `what`: 0 for a node, 1 for a choice");
        BranchingStory s = Check.analyzed("=A[1?a]{}=B[2]{}");
        Check.isTrue("node 0", () -> s.isReached(0, 0));
        Check.isFalse("choice 0", () -> s.isReached(1, 0));
        doc.says(31, "- `number`: the node or choice");
        BranchingStory last = Check.analyzed("=A>L=B=C=D=E=F=G=H=I=J=K=L" + "[1?a]{}".repeat(15) + "[2]{}");
        Check.isTrue("the twelfth node", () -> last.isReached(0, 11));
        Check.isFalse("the eleventh node", () -> last.isReached(0, 10));
        Check.isTrue("the 16th choice", () -> last.isReached(1, 15));
        Check.isFalse("the 15th choice", () -> last.isReached(1, 14));
        doc.says(31, "Returns true if it is not nothing.");
        Check.isTrue("not nothing", () -> Check.analyzed("=A").isReached(0, 0));
        Check.isFalse("nothing", () -> Check.analyzed("=A=B").isReached(0, 1));
        outOfRange(31, "what", "isReached ", " 0", 2);
        outOfRange(31, "what", "isReached ", " -1", 2);
        notAnalyzed(31, "isReached 0 0", "isReached 1 0", "isReached 0 -1", "isReached 1 16");
        doc.says(31, "Throws `IndexOutOfBoundsException` if there is no such node or choice");
        for (int number : new int[] {-1, 3, 12, 16, MIN, MAX}) {
            Calls.refusedIndex("isReached 0 " + number, SMALL, "build", "start", "choose 0", "analyze");
            Calls.refusedIndex("isReached 1 " + number, SMALL, "build", "start", "choose 0", "analyze");
        }
        Calls.refusedIndex("isReached 1 0", "=A", "build", "analyze");
        Check.index("no 13th node", () -> last.isReached(0, 12));
        Check.index("no 17th choice", () -> last.isReached(1, 16));
    }

    private void ranges() {
        BranchingStory s = Check.analyzed("=A[1]{x=1y=2z=3>L}[2]{x=7y=8z=9>L}=B=C=D=E=F=G=H=I=J=K=L");
        for (int promise = 32; promise <= 33; promise++) {
            boolean low = promise == 32;
            String call = low ? "lowest " : "greatest ";
            doc.says(promise, "value of a meter in the entry of a node.");
            Check.due(call, low ? 1 : 7, () -> low ? s.lowest(11, 0) : s.greatest(11, 0));
            doc.says(promise, "- `node`: the node");
            Check.due("the first", 0, () -> low ? s.lowest(0, 0) : s.greatest(0, 0));
            Check.due("the last", low ? 1 : 7, () -> low ? s.lowest(11, 0) : s.greatest(11, 0));
            doc.says(promise, "- `meter`: 0 to 2");
            Check.due("y", low ? 2 : 8, () -> low ? s.lowest(11, 1) : s.greatest(11, 1));
            Check.due("z", low ? 3 : 9, () -> low ? s.lowest(11, 2) : s.greatest(11, 2));
            doc.says(promise, "Returns the value; NONE if the entry is nothing.");
            for (int i = 0; i < 3; i++) {
                int meter = i;
                Check.due("nothing", -1, () -> low ? s.lowest(10, meter) : s.greatest(10, meter));
                Check.due("0", 0, () -> low ? s.lowest(0, meter) : s.greatest(0, meter));
            }
            Check.due("9", 9, () -> Check.analyzed("=Ax=9>B=B").lowest(1, 0));
            outOfRange(promise, "meter", call + "0 ", "", 3);
            outOfRange(promise, "meter", call + "-1 ", "", 3);
            notAnalyzed(promise, call + "0 0", call + "0 2", call + "-1 0", call + "12 1");
            noNode(promise, call, " 0");
            noNode(promise, call, " 2");
        }
    }

    private void values() {
        doc.says(34, "Returns the possible values of a flag in the entry of a node.");
        BranchingStory s = Check.analyzed("=A[1]{+a+b>L}[2]{+f+b>L}=B=C=D=E=F=G=H=I=J=K=L");
        Check.due("a", 3, () -> s.values(11, 0));
        doc.says(34, "- `node`: the node");
        Check.due("the first node", 1, () -> s.values(0, 0));
        Check.due("the last node", 2, () -> s.values(11, 1));
        doc.says(34, "- `flag`: 0 to 5");
        Check.due("a", 3, () -> s.values(11, 0));
        Check.due("f", 3, () -> s.values(11, 5));
        doc.says(34, "Returns 1 if it can be 0, plus 2 if it can be 1; 0 if the entry is nothing.");
        Check.due("only 0", 1, () -> s.values(11, 2));
        Check.due("only 1", 2, () -> s.values(11, 1));
        Check.due("both", 3, () -> s.values(11, 5));
        for (int i = 0; i < 6; i++) {
            int flag = i;
            Check.due("nothing", 0, () -> s.values(10, flag));
        }
        outOfRange(34, "flag", "values 0 ", "", 6);
        outOfRange(34, "flag", "values -1 ", "", 6);
        notAnalyzed(34, "values 0 0", "values 0 5", "values -1 0", "values 12 5");
        noNode(34, "values ", " 0");
        noNode(34, "values ", " 5");
    }

    private void hubs() {
        doc.says(35, "Returns the possible present hubs in the entry of a node (before the node itself becomes the present hub");
        Check.due("a hub at the start", NO_HUB, () -> Check.analyzed("=A#").hubs(0));
        Check.due("entered again", NO_HUB + 1, () -> Check.analyzed("=A#[1]{}").hubs(0));
        Check.due("a hub behind a hub", 1, () -> Check.analyzed("=A#>B=B#").hubs(1));
        doc.says(35, "- `node`: the node");
        BranchingStory s = Check.analyzed("=A[1]{>K}[2]{>L}[3]{>B}=B=C=D=E=F=G=H=I=J=K#>B=L#>B");
        Check.due("the first", NO_HUB, () -> s.hubs(0));
        Check.due("the last", NO_HUB, () -> s.hubs(11));
        doc.says(35, "Returns the sum of 2^k for each node k that is possible, plus 2^12 if having none is possible");
        Check.due("K, L and none", (1 << 10) + (1 << 11) + NO_HUB, () -> s.hubs(1));
        Check.due("nothing", 0, () -> s.hubs(2));
        Check.due("all but B itself", 4095 - 2, () -> Check.analyzed("=A#[1]{>B}[2]{>C}[3]{>D}[4]{>E}[5]{>F}[6]{>G}[7]{>H}[8]{>I}[9]{>J}"
                + "[10]{>K}[11]{>L}=B#=C#>B=D#>B=E#>B=F#>B=G#>B=H#>B=I#>B=J#>B=K#>B=L#>B").hubs(1));
        notAnalyzed(35, "hubs 0", "hubs -1", "hubs 12");
        noNode(35, "hubs ", "");
    }

    private void verdict() {
        doc.says(36, "Returns the verdict on a test.");
        Check.due("verdict", 2, () -> Check.analyzed(SMALL).verdict(0));
        doc.says(36, "- `test`: the test");
        BranchingStory s = Check.analyzed("=A?!a{}" + "?a{}".repeat(14) + "+a?a{}");
        Check.due("the first", 1, () -> s.verdict(0));
        Check.due("the second", 2, () -> s.verdict(1));
        Check.due("the 16th", 1, () -> s.verdict(15));
        doc.says(36, "Returns 1 if the true part of its condition is not nothing, plus 2 if the false part is not");
        Check.due("true", 1, () -> Check.analyzed("=A?x<1{}").verdict(0));
        Check.due("false", 2, () -> Check.analyzed("=A?x>0{}").verdict(0));
        Check.due("both", 3, () -> Check.analyzed("=A[1]{x+1}?x>0{}").verdict(0));
        Check.due("not reached", 0, () -> Check.analyzed("=A=B?a{}").verdict(0));
        notAnalyzed(36, "verdict 0", "verdict -1", "verdict 16");
        doc.says(36, "Throws `IndexOutOfBoundsException` if there is no such test");
        for (int test : new int[] {-1, 2, 3, 16, MIN, MAX}) {
            Calls.refusedIndex("verdict " + test, SMALL, "build", "start", "choose 0", "explore 9", "analyze");
        }
        Calls.refusedIndex("verdict 16", "=A" + "?a{}".repeat(16), "build", "analyze");
        Calls.refusedIndex("verdict 0", "=A[1?a]{}", "build", "analyze");
    }

    private void possible() {
        doc.says(37, "Returns what is possible.");
        possible(SMALL, 0, 1);
        doc.says(37, "- `what`: 0 endings, 1 dead ends");
        possible("=A[1]{.3}[2]{>B}=B", 8, 2);
        doc.says(37, "Returns for endings the sum of 2^n for each possible ending n; for dead ends the sum of 2^k for each node k");
        possible("=A[0]{.0}[1]{.1}[2]{.2}[3]{.3}[4]{.4}[5]{.5}[6]{.6}[7]{.7}[8]{.8}[9]{.9}", 1023, 0);
        possible("=A[1]{}", 0, 0);
        possible("=A?x<1&x<1{<}[1]{>B}[2]{>C}[3]{>D}[4]{>E}[5]{>F}[6]{>G}[7]{>H}[8]{>I}[9]{>J}[10]{>K}[11]{>L}=B=C=D=E=F=G=H=I=J=K=L",
                0, 4095);
        outOfRange(37, "what", "possible ", "", 2);
        notAnalyzed(37, "possible 0", "possible 1");
    }
}
