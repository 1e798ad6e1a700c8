/** The sentences on the story and on playing it: promises 6 to 23. */
final class PlayEdges {
    private static final int MIN = Integer.MIN_VALUE;
    private static final int MAX = Integer.MAX_VALUE;
    // Two nodes, three choices and two tests; it can be played without end.
    private static final String SMALL = "=A#7[1]{>B}=B 8?a{}?b{}[2]{x+1}[3]{.4}";

    private final Doc doc;

    PlayEdges(Doc doc) {
        this.doc = doc;
    }

    void check() {
        flagsAndMeters();
        startState();
        entering();
        linesAndFlags();
        meterEdges();
        tests();
        conditions();
        choices();
        jumps();
        returns();
        endings();
        endsOfBlocks();
        statementsOfFlow();
        loopInstead();
        taking();
        statuses();
        count();
        nodes();
        choicesOfStory();
        start();
        choose();
        back();
        history();
        told();
        positions();
        flagCall();
        meterCall();
        lines();
    }

    private static int status(String text) {
        return Check.started(text).status();
    }

    private void flagsAndMeters() {
        doc.says(0, "There are 6 flags, numbered 0 to 5 (a to f), each 0 or 1, and 3 meters, numbered 0 to 2 (x, y, z)");
        for (int i = 0; i < 6; i++) {
            BranchingStory s = Check.started("=A+" + "abcdef".charAt(i));
            for (int k = 0; k < 6; k++) {
                int flag = k;
                Check.due("flag " + k + " when " + i + " is raised", k == i ? 1 : 0, () -> s.flag(flag));
            }
            BranchingStory twice = Check.started("=A+a+b+c+d+e+f-" + "abcdef".charAt(i));
            for (int k = 0; k < 6; k++) {
                int flag = k;
                Check.due("flag " + k + " when " + i + " is lowered", k == i ? 0 : 1, () -> twice.flag(flag));
            }
        }
        for (int i = 0; i < 3; i++) {
            BranchingStory s = Check.started("=A" + "xyz".charAt(i) + "=9");
            for (int k = 0; k < 3; k++) {
                int meter = k;
                Check.due("meter " + k + " when " + i + " is 9", k == i ? 9 : 0, () -> s.meter(meter));
            }
        }
    }

    private void startState() {
        doc.says(0, "When a story is started, all of them are 0, no choice has been taken, there is no present hub");
        BranchingStory s = Check.started("=C[1]{+a+fx=9y=8z=7>B}=B#[2]{}=A");
        s.choose(0);
        Check.due("hub", 1, s::hub);
        s.choose(0);
        Check.due("a dead end, as the choice has been taken", 3, s::status);
        s.start();
        for (int k = 0; k < 6; k++) {
            int flag = k;
            Check.due("flag " + k, 0, () -> s.flag(flag));
        }
        for (int k = 0; k < 3; k++) {
            int meter = k;
            Check.due("meter " + k, 0, () -> s.meter(meter));
        }
        Check.due("no hub", -1, s::hub);
        Check.due("the first node of the text", 0, s::node);
        s.choose(0);
        Check.due("the hub's choice is offered again", 1, s::offered);
    }

    private void entering() {
        doc.says(0, "To enter a node means: it becomes the present node; if it is a hub, it also becomes the present hub");
        BranchingStory s = Check.started("=A[1]{>B}=B#[2]{>C}=C 5[3]{>L}=D=E=F=G=H=I=J=K=L#[4]{}");
        Check.due("no hub at A", -1, s::hub);
        s.choose(0);
        Check.due("node B", 1, s::node);
        Check.due("hub B", 1, s::hub);
        s.choose(0);
        Check.due("node C", 2, s::node);
        Check.due("the hub stays", 1, s::hub);
        Check.due("the block is executed", 5, () -> s.line(0));
        s.choose(0);
        Check.due("node L", 11, s::node);
        Check.due("hub L", 11, s::hub);
        doc.says(0, "The statements of a block are executed one after the other:");
        BranchingStory t = Check.started("=A 1 2 3x=4x+1x-2");
        Check.due("three lines", 3, t::said);
        Check.due("the last", 3, () -> t.line(0));
        Check.due("the first", 1, () -> t.line(2));
        Check.due("the meter", 3, () -> t.meter(0));
    }

    private void linesAndFlags() {
        doc.says(0, "- A number: a line with this number is said.");
        for (int i = 0; i < 100; i++) {
            int number = i;
            Check.due("line " + i, i, () -> Check.started("=A " + number).line(0));
        }
        doc.says(0, "- + or - and a flag: the flag becomes 1 or 0.");
        Check.due("raised", 1, () -> Check.started("=A+a").flag(0));
        Check.due("raised twice", 1, () -> Check.started("=A+a+a").flag(0));
        Check.due("lowered", 0, () -> Check.started("=A+a-a").flag(0));
        Check.due("lowered when it is 0", 0, () -> Check.started("=A-a").flag(0));
        Check.due("raised again", 1, () -> Check.started("=A+f-f+f").flag(5));
        for (char flag = 'a'; flag <= 'f'; flag++) {
            changesOnly("+" + flag, flag - 'a', 1, -1, -1);
            changesOnly("-" + flag, flag - 'a', 0, -1, -1);
        }
    }

    /** Behind a statement a flag and a meter have new values (those with the number -1: none), all else its old one. */
    private static void changesOnly(String statement, int flag, int flagThen, int meter, int meterThen) {
        BranchingStory s = Check.started("=A>B=B# 3x=5y=6z=7+a+c+e" + statement + "[1]{}");
        for (int i = 0; i < 6; i++) {
            int asked = i;
            Check.due("flag " + i + " behind " + statement, i == flag ? flagThen : (i + 1) % 2, () -> s.flag(asked));
        }
        for (int i = 0; i < 3; i++) {
            int asked = i;
            Check.due("meter " + i + " behind " + statement, i == meter ? meterThen : 5 + i, () -> s.meter(asked));
        }
        Check.due("node behind " + statement, 1, s::node);
        Check.due("hub behind " + statement, 1, s::hub);
        Check.due("lines behind " + statement, 1, s::said);
        Check.due("line behind " + statement, 3, () -> s.line(0));
        Check.due("offered behind " + statement, 1, s::offered);
    }

    private void meterEdges() {
        doc.says(0, "- A meter: with = it becomes the digit, with + it increases by the digit, but to at most 9");
        for (int v = 0; v <= 9; v++) {
            for (int d = 0; d <= 9; d++) {
                int value = v;
                int digit = d;
                BranchingStory s = Check.started("=Ax=" + v + "x=" + d + "y=" + v + "y+" + d + "z=" + v + "z-" + d);
                Check.due(v + " = " + d, digit, () -> s.meter(0));
                Check.due(v + " + " + d, value + digit > 9 ? 9 : value + digit, () -> s.meter(1));
                Check.due(v + " - " + d, value < digit ? 0 : value - digit, () -> s.meter(2));
            }
        }
        for (int i = 0; i < 3; i++) {
            char meter = (char) ('x' + i);
            changesOnly(meter + "=2", -1, -1, i, 2);
            changesOnly(meter + "+2", -1, -1, i, 7 + i);
            changesOnly(meter + "-2", -1, -1, i, 3 + i);
        }
        changesOnly("?a{}", -1, -1, -1, -1);
        changesOnly("?x<6&b{}{}", -1, -1, -1, -1);
        changesOnly("[2?b]{+b.1}", -1, -1, -1, -1);
        // At 9 and at 0 it goes on as from there.
        Check.due("9 and 9 less 1", 8, () -> Check.started("=Ax=9x+9x-1").meter(0));
        Check.due("0 less 9 and 1 more", 1, () -> Check.started("=Ax-9x+1").meter(0));
        // The others stay as they are.
        BranchingStory s = Check.started("=Ax=9y=9z=9y+9y-9");
        Check.due("x", 9, () -> s.meter(0));
        Check.due("y", 0, () -> s.meter(1));
        Check.due("z", 9, () -> s.meter(2));
    }

    private void tests() {
        doc.says(0, "- A test: if its condition holds, its first block is executed, otherwise its second one, if there is one.");
        Check.due("the first", 1, () -> Check.started("=A?!a{1}{2}").line(0));
        Check.due("the first alone", 1, () -> Check.started("=A?!a{1}{2}").said());
        Check.due("the second", 2, () -> Check.started("=A?a{1}{2}").line(0));
        Check.due("the second alone", 1, () -> Check.started("=A?a{1}{2}").said());
        Check.due("none", 0, () -> Check.started("=A?a{1}").said());
        Check.due("what follows", 3, () -> Check.started("=A?a{1}3").line(0));
        Check.due("behind the first block", 3, () -> Check.started("=A?!a{1}{2}3").line(0));
        Check.due("behind the second block", 3, () -> Check.started("=A?a{1}{2}3").line(0));
        Check.due("an empty first block", 3, () -> Check.started("=A?!a{}{2}3").line(0));
        Check.due("an empty first block says nothing", 1, () -> Check.started("=A?!a{}{2}3").said());
        Check.due("an empty second block", 1, () -> Check.started("=A?a{1}{}3").said());
        Check.due("at depth 6", 3, () -> Check.started("=A?!a{?!a{?!a{?!a{?!a{1}}}}2}3").said());
        Check.due("at depth 6 the second", 2, () -> Check.started("=A?a{}{?a{}{?a{}{?a{}{?a{}{2}}}}}").line(0));
    }

    private void conditions() {
        doc.says(0, "A condition holds if all its terms hold: a flag with the value 1, with ! with the value 0");
        Check.due("a flag of 1", 1, () -> Check.started("=A+f?f{1}{2}").line(0));
        Check.due("a flag of 0", 2, () -> Check.started("=A?f{1}{2}").line(0));
        Check.due("not a flag of 0", 1, () -> Check.started("=A?!f{1}{2}").line(0));
        Check.due("not a flag of 1", 2, () -> Check.started("=A+f?!f{1}{2}").line(0));
        for (int v = 0; v <= 9; v++) {
            for (int d = 0; d <= 9; d++) {
                BranchingStory s = Check.started("=Az=" + v + "?z<" + d + "{1}{2}?z>" + d + "{1}{2}?z=" + d + "{1}{2}");
                Check.due(v + " < " + d, v < d ? 1 : 2, () -> s.line(2));
                Check.due(v + " > " + d, v > d ? 1 : 2, () -> s.line(1));
                Check.due(v + " = " + d, v == d ? 1 : 2, () -> s.line(0));
            }
        }
        for (int wrong = 0; wrong < 8; wrong++) {
            String text = "=A" + (wrong % 2 == 0 ? "+a" : "") + (wrong / 2 % 2 == 0 ? "" : "+b") + (wrong / 4 == 0 ? "x=5" : "x=4")
                    + "?a&!b&x>4{1}{2}";
            Check.due(text, wrong == 0 ? 1 : 2, () -> Check.started(text).line(0));
        }
        Check.due("121 terms hold", 1, () -> Check.started("=A?" + "!a&".repeat(120) + "!b{1}{2}").line(0));
        Check.due("the last of many does not", 2, () -> Check.started("=A?" + "!a&".repeat(120) + "b{1}{2}").line(0));
    }

    private void choices() {
        doc.says(0, "- A choice: it is offered, if it has no condition, or its condition holds; but not if it stands in a hub");
        Check.due("no condition", 1, () -> Check.started("=A[1]{}").offered());
        Check.due("a condition that holds", 1, () -> Check.started("=A[1?!a]{}").offered());
        Check.due("one that does not", 3, () -> status("=A[1?a]{}"));
        Check.due("one term of two does not", 3, () -> status("=A[1?!a&b]{}"));
        // In a hub once, elsewhere as often as one likes.
        BranchingStory hub = Check.started("=A#[1]{x+1}[2]{y+1}");
        hub.choose(0);
        Check.due("the other is left", 1, () -> hub.choice(0));
        Check.due("none is left", 3, () -> hub.choose(0));
        BranchingStory plain = Check.started("=A[1]{x+1}");
        for (int i = 0; i < 30; i++) {
            Check.due("again", 1, () -> plain.choose(0));
        }
        // A choice that was not offered for its condition can be offered later, also in a hub.
        BranchingStory later = Check.started("=A#[1]{+a}[2?a]{.2}");
        Check.due("one at first", 1, later::offered);
        later.choose(0);
        Check.due("then the other one", 1, () -> later.choice(0));
        // Its node counts, not the present hub: a choice elsewhere is offered again under a hub.
        BranchingStory under = Check.started("=A#>B=B[1]{x+1}");
        Check.due("under a hub", 0, under::hub);
        under.choose(0);
        Check.due("offered again", 1, under::offered);
        // In a hub's choice, too.
        BranchingStory inner = Check.started("=A#[1]{[2]{>B}}=B[3]{>C}=C[4]{<}");
        inner.choose(0);
        inner.choose(0);
        inner.choose(0);
        Check.due("both are taken", 3, () -> inner.choose(0));
        BranchingStory once = Check.started("=A#[9]{[2]{}}[8]{?!a{+a<}{<}}");
        once.choose(0);
        once.choose(0);
        Check.due("the last choice of the hub", 1, once::offered);
        Check.due("it is", 2, () -> once.choice(0));
        // The 16th choice of a story in a hub.
        BranchingStory last = Check.started("=A#" + "[1?a]{}".repeat(15) + "[2]{}");
        Check.due("the 16th", 15, () -> last.choice(0));
        Check.due("the 16th once", 3, () -> last.choose(0));
    }

    private void jumps() {
        doc.says(0, "- > and a name: all choices that are offered are withdrawn, and the node with this name is entered");
        BranchingStory s = Check.started("=A[1]{}[2]{}>B[3]{}1=B 2[4]{}");
        Check.due("one is offered", 1, s::offered);
        Check.due("that of B", 3, () -> s.choice(0));
        Check.due("one line", 1, s::said);
        Check.due("that of B", 2, () -> s.line(0));
        Check.due("withdrawn, and none offered", 3, () -> status("=A[1]{}>B=B"));
        BranchingStory deep = Check.started("=A?!a{?!a{?!a{>B 1}2}3}4=B 5");
        Check.due("the rest of all blocks", 1, deep::said);
        BranchingStory own = Check.started("=A?a{[1]{}}{+a>A}");
        Check.due("its own node", 1, own::offered);
        BranchingStory choice = Check.started("=A[1]{[2]{}>B 1}=B[3]{}");
        choice.choose(0);
        Check.due("in a choice's block", 2, () -> choice.choice(0));
        Check.due("the rest is not executed", 0, choice::said);
        // The name counts, not its place in the alphabet.
        Check.due("a name that stands elsewhere", 2, () -> Check.started("=L>A=C=A").node());
        Check.due("the name of the first node", 1, () -> Check.started("=B?a{>A}{+a>B}=A").node());
        Check.due("the last name", 11, () -> Check.started("=A>L=B=C=D=E=F=G=H=I=J=K=L").node());
    }

    private void returns() {
        doc.says(0, "- <: if there is a present hub, this is done like > with this hub.");
        BranchingStory s = Check.started("=A#?a{[1]{}}{+a>B}1=B[2]{}?!b{<2}3");
        Check.due("the choice of B is withdrawn", 1, s::offered);
        Check.due("that of A is offered", 0, () -> s.choice(0));
        Check.due("the rest is not executed", 1, s::said);
        Check.due("node", 0, s::node);
        BranchingStory latest = Check.started("=A#?x=1{.1}x+1>B=B#?x=2{.2}x+1>C=C<");
        Check.due("the hub that was entered last", 2, latest::ending);
        BranchingStory self = Check.started("=A#?a{.7}+a<");
        Check.due("the hub itself", 7, self::ending);
        BranchingStory inChoice = Check.started("=A#[1]{>B}[2]{.3}=B[3]{<}");
        inChoice.choose(0);
        Check.due("in a choice", 1, () -> inChoice.choose(0));
        Check.due("back at A", 0, inChoice::node);
        Check.due("the first node is a hub, numbered 0", 0, inChoice::hub);
        doc.says(0, "Otherwise the flow ends with a dead end.");
        BranchingStory none = Check.started("=A 1[1]{}<2=B#");
        Check.due("no present hub", 3, none::status);
        Check.due("withdrawn", 0, none::offered);
        Check.due("the rest is not executed", 1, none::said);
        Check.due("the node stays", 0, none::node);
        BranchingStory later = Check.started("=A[1]{<}");
        Check.due("in a choice", 3, () -> later.choose(0));
    }

    private void endings() {
        doc.says(0, "- . and a digit: the story ends with the ending that has this number.");
        for (int i = 0; i <= 9; i++) {
            BranchingStory s = Check.started("=A." + i + " 1x=1");
            Check.due("ending " + i, i, s::ending);
            Check.due("status", 2, s::status);
            Check.due("no statement behind it", 0, s::said);
            Check.due("no meter behind it", 0, () -> s.meter(0));
        }
    }

    private void endsOfBlocks() {
        doc.says(0, "When the end of the block of a node, or of the block of a choice that was taken, is reached");
        Check.due("of a node, with a choice", 1, () -> status("=A[1]{}"));
        BranchingStory s = Check.started("=A 1[1]{2[2]{}}");
        Check.due("of a choice, with a choice", 1, () -> s.choose(0));
        Check.due("the node is not entered", 2, () -> s.line(0));
        Check.due("the inner choice", 1, () -> s.choice(0));
        Check.due("the end of a test's block is none", 1, () -> Check.started("=A?!a{}[1]{}").offered());
        Check.due("a choice in a test's block", 1, () -> status("=A?!a{[1]{}}"));
        doc.says(0, "Otherwise, if it was the block of a choice, the present node is entered, in the same flow");
        BranchingStory t = Check.started("=A 1[1]{2}");
        t.choose(0);
        Check.due("the node's line", 1, () -> t.line(0));
        Check.due("the choice's line", 2, () -> t.line(1));
        Check.due("lines", 3, t::said);
        BranchingStory notOffered = Check.started("=A 1[1]{2[2?a]{}}");
        notOffered.choose(0);
        Check.due("an inner choice that is not offered", 1, () -> notOffered.line(0));
        BranchingStory inner = Check.started("=A 1[1]{[2]{3}}");
        inner.choose(0);
        inner.choose(0);
        Check.due("behind an inner choice", 1, () -> inner.line(0));
        BranchingStory hub = Check.started("=A[1]{>B}=B#[2]{}");
        hub.choose(0);
        Check.due("then the block of the node ends", 3, () -> hub.choose(0));
        Check.due("of an empty node", 3, () -> status("=A"));
        Check.due("of a node without choices", 3, () -> status("=A 1+a"));
        Check.due("of the last node entered", 1, () -> Check.started("=A>B=B").node());
    }

    private static void counts(String kind, int withMore) {
        Check.due("150 with " + kind, withMore, () -> status("=A" + kind + "-a".repeat(149)));
        Check.due("151 with " + kind, 4, () -> status("=A" + kind + "-a".repeat(150)));
    }

    private void statementsOfFlow() {
        doc.says(0, "In a flow at most 150 statements are executed (each statement of any kind counts when it is reached).");
        Check.due("150", 3, () -> status("=A" + "-a".repeat(150)));
        Check.due("151", 4, () -> status("=A" + "-a".repeat(151)));
        for (String kind : new String[] {"1", "+b", "-b", "x=1", "x+1", "x-1", "?b{}", "?!b{}", "?b{1 2 3}", "[1?b]{}", "?!b{}{1 2}"}) {
            counts(kind, 3);
        }
        counts("[1]{}", 1);
        counts("[1]{1 2 3}", 1);
        counts(">B=B", 3);
        // A hub that is come back to: test, +c, <, test and what follows.
        Check.due("150 with a return", 3, () -> status("=A#?c{" + "-a".repeat(146) + "}{+c<}"));
        Check.due("151 with a return", 4, () -> status("=A#?c{" + "-a".repeat(147) + "}{+c<}"));
        // Statements in blocks count, and those that are not reached do not.
        Check.due("150 with a block", 3, () -> status("=A?!b{1}" + "-a".repeat(148)));
        Check.due("151 with a block", 4, () -> status("=A?!b{1}" + "-a".repeat(149)));
        Check.due("the 150th waits", 1, () -> status("=A" + "-a".repeat(149) + "[1]{}"));
        Check.due("the 150th ends", 2, () -> status("=A" + "-a".repeat(149) + ".1"));
        Check.due("the 150th is a return without a hub", 3, () -> status("=A" + "-a".repeat(149) + "<1"));
        Check.due("the 150th is a test", 3, () -> status("=A" + "-a".repeat(149) + "?b{1}"));
        Check.due("the 150th is a jump to nothing", 3, () -> status("=A" + "-a".repeat(149) + ">B=B"));
        // One flow: the block of a choice, and the node that is entered behind it.
        for (int more = 0; more < 2; more++) {
            BranchingStory s = Check.started("=A[1]{" + "-a".repeat(75) + "}" + "-a".repeat(74 + more));
            int due = more == 0 ? 1 : 4;
            Check.due("choice and node", due, () -> s.choose(0));
        }
        // A new flow counts anew.
        BranchingStory s = Check.started("=A" + "-a".repeat(149) + "[1]{}");
        Check.due("a second flow of 150", 1, () -> s.choose(0));
        Check.due("a third flow of 150", 1, () -> s.choose(0));
    }

    private void loopInstead() {
        doc.says(0, "If another one would have to be executed, the flow ends with a loop instead.");
        BranchingStory s = Check.started("=A" + "-a".repeat(149) + "x=1y=1[1]{}");
        Check.due("status", 4, s::status);
        Check.due("the 150th is executed", 1, () -> s.meter(0));
        Check.due("the 151st is not", 0, () -> s.meter(1));
        Check.due("status of an ending that is the 151st", 4, () -> status("=A" + "-a".repeat(150) + ".1"));
        Check.due("a return that is the 151st", 4, () -> status("=A" + "-a".repeat(150) + "<"));
        Check.due("a jump that is the 151st", 0, () -> Check.started("=A" + "-a".repeat(150) + ">B=B").node());
        Check.due("a jump that is the 150th", 1, () -> Check.started("=A" + "-a".repeat(149) + ">B=B").node());
        Check.due("a choice that is the 151st", 4, () -> status("=A" + "-a".repeat(150) + "[1]{}"));
        Check.due("a jump to itself", 4, () -> status("=A>A"));
        Check.due("75 times around", 75, () -> Check.started("=A 1>A").said());
        Check.due("two nodes", 4, () -> status("=A>B=B>A"));
        Check.due("a hub and its return", 4, () -> status("=A#<"));
        BranchingStory choice = Check.started("=A[1]{>B}=B 1>B");
        Check.due("behind a choice", 4, () -> choice.choose(0));
        Check.due("one jump, and 75 lines", 75, choice::said);
        Check.due("no ending", -1, choice::ending);
    }

    private void taking() {
        doc.says(0, "While the story waits, one of the choices that are offered can be taken.");
        for (int i = 0; i < 16; i++) {
            int position = i;
            StringBuilder text = new StringBuilder("=A");
            for (int k = 0; k < 16; k++) {
                text.append('[').append(k).append("]{").append(k).append(">B}");
            }
            BranchingStory s = Check.started(text + "=B");
            Check.due("position " + i, 3, () -> s.choose(position));
            Check.due("its block", i, () -> s.line(0));
        }
        doc.says(0, "They are in the order in which they were offered.");
        BranchingStory s = Check.started("=A[9]{}?a{[8]{}}{[7]{[6]{}}}[5?a]{}[4]{}");
        int[] order = {0, 2, 5};
        Check.due("offered", order.length, s::offered);
        for (int i = 0; i < order.length; i++) {
            int position = i;
            Check.due("position " + i, order[i], () -> s.choice(position));
        }
        doc.says(0, "Then all of them are withdrawn, the choice counts as taken, and a new flow begins");
        BranchingStory t = Check.started("=A[1]{[4]{}}[2]{}[3]{}");
        t.choose(0);
        Check.due("only the inner one", 1, t::offered);
        Check.due("it is", 1, () -> t.choice(0));
        BranchingStory hub = Check.started("=A#[1]{}[2]{}[3]{}");
        hub.choose(1);
        Check.due("two are left", 2, hub::offered);
        Check.due("the last of them", 2, () -> hub.choice(1));
    }

    private void statuses() {
        doc.says(0, "The status is 0 if no story has been started, 1 if the story waits, 2 if it has ended with an ending");
        Check.due("new", 0, () -> new BranchingStory().status());
        Check.due("built", 0, () -> Check.built("=A[1]{}").status());
        Check.due("waits", 1, () -> status("=A[1]{}"));
        Check.due("ending", 2, () -> status("=A.0"));
        Check.due("dead end", 3, () -> status("=A"));
        Check.due("loop", 4, () -> status("=A>A"));
        doc.says(0, "When a flow ends with a status other than 1, all choices are withdrawn.");
        for (String end : new String[] {".1", "<", ">B=B>B", ">B=B"}) {
            BranchingStory s = Check.started("=A[1]{}[2]{}" + end);
            Check.due("offered behind " + end, 0, s::offered);
            Check.index("no choice behind " + end, () -> s.choice(0));
        }
        BranchingStory s = Check.started("=A" + "[1]{}".repeat(2) + "-a".repeat(149));
        Check.due("a loop behind the choices", 4, s::status);
        Check.due("offered", 0, s::offered);
    }

    private void count() {
        doc.says(6, "Returns how many there are.");
        BranchingStory s = Check.built(SMALL);
        Check.due("nodes", 2, () -> s.count(0));
        Check.due("choices", 3, () -> s.count(1));
        Check.due("tests", 2, () -> s.count(2));
        doc.says(6, "- `what`: 0 nodes, 1 choices, 2 tests");
        Check.due("12 nodes", 12, () -> Check.built("=A=B=C=D=E=F=G=H=I=J=K=L").count(0));
        Check.due("16 choices", 16, () -> Check.built("=A" + "[1?a]{}".repeat(16)).count(1));
        Check.due("no tests", 0, () -> Check.built("=A" + "[1?a]{}".repeat(16)).count(2));
        Check.due("16 tests", 16, () -> Check.built("=A" + "?a{}".repeat(16)).count(2));
        doc.says(6, "Returns the number; 0 without a story.");
        for (int i = 0; i < 3; i++) {
            int what = i;
            Check.due("a new object", 0, () -> new BranchingStory().count(what));
            Check.due("a text that is not built", 0, () -> Check.typed(SMALL).count(what));
        }
        doc.says(6, "Throws `IllegalArgumentException` if what is out of range");
        for (int what : new int[] {-1, 3, MIN, MAX}) {
            Calls.refusedArgument("count " + what, "");
            Calls.refusedArgument("count " + what, SMALL, "build", "start", "choose 0");
        }
    }

    private void nodes() {
        doc.says(7, "Returns the name of a node.");
        BranchingStory s = Check.built("=L=C=A=B=D=E=F=G=H=I=J=K");
        doc.says(7, "- `node`: the node");
        Check.due("the first", 'L', () -> s.name(0));
        Check.due("the last", 'K', () -> s.name(11));
        doc.says(7, "Returns the code of the capital letter.");
        Check.due("A", 65, () -> s.name(2));
        Check.due("L", 76, () -> s.name(0));
        doc.says(8, "Tells whether a node is a hub.");
        BranchingStory hubs = Check.built("=A#=B=C#");
        doc.says(8, "- `node`: the node");
        Check.isTrue("the first", () -> hubs.isHub(0));
        Check.isTrue("the last", () -> hubs.isHub(2));
        doc.says(8, "Returns true if it is.");
        Check.isFalse("it is not", () -> hubs.isHub(1));
        for (int promise = 7; promise <= 8; promise++) {
            String call = promise == 7 ? "name " : "isHub ";
            doc.says(promise, "Throws `IndexOutOfBoundsException` if there is no such node");
            for (int node : new int[] {-1, 2, 12, 16, 32, MIN, MAX}) {
                Calls.refusedIndex(call + node, SMALL, "build", "start", "choose 0", "choose 0");
            }
            Calls.refusedIndex(call + 12, "=A=B=C=D=E=F=G=H=I=J=K=L", "build");
            Calls.refusedIndex(call + 0, "");
            Calls.refusedIndex(call + 0, SMALL);
            // A story of fewer nodes in place of one with more.
            Calls.refusedIndex(call + 1, SMALL, "build", "text =A", "build");
        }
        Check.due("name of the last node", 'B', () -> Check.built(SMALL).name(1));
    }

    private void choicesOfStory() {
        doc.says(9, "Returns the number that is written in a choice.");
        BranchingStory s = Check.built("=A[0]{}[9]{}[10]{}[99]{}=B[5]{}");
        Check.due("the second", 9, () -> s.label(1));
        doc.says(9, "- `choice`: the choice");
        Check.due("the first", 0, () -> s.label(0));
        Check.due("the last", 5, () -> s.label(4));
        doc.says(9, "Returns the number, 0 to 99.");
        Check.due("0", 0, () -> s.label(0));
        Check.due("10", 10, () -> s.label(2));
        Check.due("99", 99, () -> s.label(3));
        doc.says(10, "Returns the node in which a choice stands.");
        Check.due("the first node", 0, () -> s.nodeOf(3));
        doc.says(10, "- `choice`: the choice");
        Check.due("the first choice", 0, () -> s.nodeOf(0));
        Check.due("the last choice", 1, () -> s.nodeOf(4));
        doc.says(10, "Returns the node.");
        Check.due("the twelfth", 11, () -> Check.built("=A=B=C=D=E=F=G=H=I=J=K=L[1]{}").nodeOf(0));
        for (int promise = 9; promise <= 10; promise++) {
            String call = promise == 9 ? "label " : "nodeOf ";
            doc.says(promise, "Throws `IndexOutOfBoundsException` if there is no such choice");
            for (int choice : new int[] {-1, 3, 16, 32, MIN, MAX}) {
                Calls.refusedIndex(call + choice, SMALL, "build", "start", "choose 0", "choose 0");
            }
            Calls.refusedIndex(call + 16, "=A" + "[1]{}".repeat(16), "build");
            Calls.refusedIndex(call + 0, "");
            Calls.refusedIndex(call + 0, "=A", "build");
            Calls.refusedIndex(call + 0, SMALL, "build", "text =A", "build");
        }
        BranchingStory many = Check.built("=A" + "[1]{}".repeat(15) + "=B[2]{}");
        Check.due("the 16th label", 2, () -> many.label(15));
        Check.due("the 16th choice's node", 1, () -> many.nodeOf(15));
    }

    private void start() {
        doc.says(11, "Starts the story, from the beginning.");
        BranchingStory s = Check.started(SMALL);
        s.choose(0);
        s.choose(0);
        Check.due("x", 1, () -> s.meter(0));
        Check.due("start", 1, s::start);
        Check.due("x then", 0, () -> s.meter(0));
        Check.due("node then", 0, s::node);
        doc.says(11, "Nothing can be taken back then, and the lines that were said before are forgotten.");
        Check.state("back", s::back);
        Check.due("one line", 1, s::said);
        Check.due("that of A", 7, () -> s.line(0));
        Check.due("none before it", -1, () -> s.line(1));
        Check.due("none at 19", -1, () -> s.line(19));
        doc.says(11, "Returns the status.");
        Check.due("waits", 1, () -> Check.built("=A[1]{}").start());
        Check.due("ends", 2, () -> Check.built("=A.0").start());
        Check.due("dead end", 3, () -> Check.built("=A").start());
        Check.due("loop", 4, () -> Check.built("=A>A").start());
        doc.says(11, "Throws `IllegalStateException` if there is no story");
        Calls.refusedState("start", "");
        Calls.refusedState("start", SMALL);
        Calls.refusedState("start", "=A}");
    }

    private void choose() {
        doc.says(12, "Takes a choice.");
        BranchingStory s = Check.started("=A[1]{1>A}[2]{2>A}");
        s.choose(1);
        Check.due("the second", 2, () -> s.line(0));
        s.choose(0);
        Check.due("the first", 1, () -> s.line(0));
        doc.says(12, "- `position`: its position, from 0, among the choices that are offered");
        BranchingStory some = Check.started("=A[1?a]{.1}[2]{.2}[3?a]{.3}[4]{.4}");
        some.choose(0);
        Check.due("position 0", 2, some::ending);
        some.back();
        some.choose(1);
        Check.due("position 1", 4, some::ending);
        doc.says(12, "Returns the status.");
        String[] blocks = {"", ".1", "<", ">B"};
        for (int i = 0; i < blocks.length; i++) {
            BranchingStory t = Check.started("=A[1]{" + blocks[i] + "}=B>B");
            Check.due("status", i + 1, () -> t.choose(0));
        }
        doc.says(12, "Throws `IllegalStateException` if the status is not 1");
        for (int position : new int[] {0, 1, -1, MIN, MAX}) {
            Calls.refusedState("choose " + position, "");
            Calls.refusedState("choose " + position, SMALL, "build");
            Calls.refusedState("choose " + position, SMALL, "build", "start", "choose 0", "choose 0", "choose 1");
            Calls.refusedState("choose " + position, "=A[1]{<}", "build", "start", "choose 0");
            Calls.refusedState("choose " + position, "=A[1]{>B}=B 1>B", "build", "start", "choose 0");
            Calls.refusedState("choose " + position, "=A[1]{}", "build", "start", "build");
        }
        doc.says(12, "Throws `IndexOutOfBoundsException` if there is no such position");
        for (int position : new int[] {-1, 2, 3, 16, MIN, MAX}) {
            Calls.refusedIndex("choose " + position, SMALL, "build", "start", "choose 0");
            Calls.refusedIndex("choose " + position, SMALL, "build", "start", "choose 0", "choose 0", "explore 9", "analyze");
        }
        Calls.refusedIndex("choose 1", SMALL, "build", "start");
        Calls.refusedIndex("choose 16", "=A" + "[1]{}".repeat(16), "build", "start");
        Check.due("the last position", 2, () -> Check.started("=A" + "[1]{}".repeat(15) + "[2]{.1}").choose(15));
    }

    private void back() {
        doc.says(13, "Takes back a choice: all becomes as it was before it, also the lines that have been said.");
        String[] blocks = {"+b-ax=1y=2z=3 6", "+b 6.1", "+b 6<", "+b 6>B", "+b 6>C", "+b 6>D"};
        for (String block : blocks) {
            String text = "=A#5+ax=9y=8z=7[1]{" + block + "}[2]{}[3]{4[9]{" + block + "}}=B>B=C#[4]{}=D";
            for (String[] before : new String[][] {{"build", "start"}, {"build", "start", "choose 1"}, {"build", "start", "choose 2"}}) {
                Calls there = Calls.make(text, before);
                there.written("choose 0");
                there.written("back");
                Check.same("back in " + text + " behind " + String.join(" ", before), there.all(), Calls.make(text, before).all());
            }
        }
        // More lines than are kept for line().
        StringBuilder many = new StringBuilder("=A");
        for (int i = 10; i < 35; i++) {
            many.append(i).append(' ');
        }
        many.append("[1]{");
        for (int i = 50; i < 90; i++) {
            many.append(i).append(' ');
        }
        BranchingStory s = Check.started(many + ">B}=B 1[2]{}");
        s.choose(0);
        Check.due("lines behind the choice", 66, s::said);
        s.back();
        Check.due("lines before it", 25, s::said);
        for (int i = 0; i < 20; i++) {
            int back = i;
            Check.due("line " + i, 34 - i, () -> s.line(back));
        }
        doc.says(13, "start() empties the history.");
        for (int i = 0; i < 3; i++) {
            s.choose(0);
            s.start();
            Check.state("back", s::back);
        }
        doc.says(13, "Returns how many states are left in the history.");
        BranchingStory t = Check.started("=A[1]{}");
        for (int taken = 1; taken <= 12; taken++) {
            for (int i = 0; i < taken; i++) {
                t.choose(0);
            }
            for (int left = taken - 1; left >= 0; left--) {
                Check.due("left of " + taken, left, t::back);
            }
        }
        doc.says(13, "Throws `IllegalStateException` if the history is empty");
        Calls.refusedState("back", "");
        Calls.refusedState("back", SMALL, "build");
        Calls.refusedState("back", SMALL, "build", "start");
        Calls.refusedState("back", SMALL, "build", "start", "choose 0", "back");
        Calls.refusedState("back", SMALL, "build", "start", "choose 0", "start");
        Calls.refusedState("back", SMALL, "build", "start", "choose 0", "build");
        Calls.refusedState("back", "=A.1", "build", "start", "explore 9", "analyze");
    }

    private void history() {
        doc.says(13, "in a history of at most 12 such states; when one more is recorded, the oldest one is dropped");
        for (int taken = 11; taken <= 26; taken++) {
            BranchingStory s = Check.started("=A 1[1]{?x<9{x+1}{x=0y+1}}");
            for (int i = 0; i < taken; i++) {
                s.choose(0);
            }
            int states = taken < 12 ? taken : 12;
            for (int left = states - 1; left >= 0; left--) {
                int at = taken - states + left;
                Check.due("back of " + taken, left, s::back);
                Check.due("x", at % 10, () -> s.meter(0));
                Check.due("y", at / 10, () -> s.meter(1));
                Check.due("said", at + 1, s::said);
            }
            Check.state("no more of " + taken, s::back);
            Check.due("it waits still", 1, s::status);
        }
        // back() makes room again: the ones that are left are not dropped.
        BranchingStory s = Check.started("=A 1[1]{x+1}");
        for (int i = 0; i < 12; i++) {
            s.choose(0);
        }
        Check.due("back", 11, s::back);
        s.choose(0);
        for (int left = 11; left >= 0; left--) {
            Check.due("left", left, s::back);
        }
        Check.due("the first of all", 0, () -> s.meter(0));
        Check.state("none before the first", s::back);
        // A refused choice is not recorded.
        BranchingStory t = Check.started("=A[1]{x+1}");
        t.choose(0);
        Check.index("refused", () -> t.choose(1));
        Check.due("one state", 0, t::back);
    }

    private void told() {
        doc.says(14, "Returns the status.");
        BranchingStory s = Check.started("=A[1]{.1}[2]{<}[3]{>B}=B>B");
        Check.due("waits", 1, s::status);
        doc.says(14, "Returns the status, 0 to 4.");
        Check.due("0", 0, () -> Check.built("=A").status());
        for (int i = 0; i < 3; i++) {
            int position = i;
            s.choose(position);
            Check.due("status", i + 2, s::status);
            s.back();
            Check.due("status behind back", 1, s::status);
        }
        doc.says(15, "Returns the ending.");
        Check.due("ending", 6, () -> Check.started("=A.6").ending());
        doc.says(15, "Returns its number; NONE if the status is not 2.");
        Check.due("status 0", -1, () -> new BranchingStory().ending());
        Check.due("built", -1, () -> Check.built("=A.0").ending());
        Check.due("status 1", -1, () -> Check.started("=A[1]{.0}").ending());
        Check.due("status 2", 0, () -> Check.started("=A.0").ending());
        Check.due("status 2", 9, () -> Check.started("=A.9").ending());
        Check.due("status 3", -1, () -> Check.started("=A").ending());
        Check.due("status 4", -1, () -> Check.started("=A>A").ending());
        s.choose(0);
        s.back();
        Check.due("taken back", -1, s::ending);
        s.choose(1);
        Check.due("a dead end behind it", -1, s::ending);
        doc.says(16, "Returns the present node.");
        Check.due("node", 1, () -> Check.started("=A>B=B[1]{}").node());
        doc.says(16, "Returns the node that was entered last; NONE if the status is 0.");
        Check.due("new", -1, () -> new BranchingStory().node());
        Check.due("built", -1, () -> Check.built("=A").node());
        Check.due("the first", 0, () -> Check.started("=A").node());
        Check.due("the twelfth, in a dead end", 11, () -> Check.started("=A>L=B=C=D=E=F=G=H=I=J=K=L").node());
        Check.due("in an ending", 1, () -> Check.started("=A>B=B.1").node());
        Check.due("in a loop", 1, () -> Check.started("=A>B=B>B").node());
        doc.says(17, "Returns the present hub.");
        Check.due("hub", 1, () -> Check.started("=A>B=B#>C=C[1]{}").hub());
        doc.says(17, "Returns the node; NONE if there is none, or the status is 0.");
        Check.due("new", -1, () -> new BranchingStory().hub());
        Check.due("built", -1, () -> Check.built("=A#").hub());
        Check.due("none", -1, () -> Check.started("=A").hub());
        Check.due("the first node", 0, () -> Check.started("=A#").hub());
        Check.due("the twelfth node", 11, () -> Check.started("=A>L=B=C=D=E=F=G=H=I=J=K=L#").hub());
        BranchingStory built = Check.started("=A#[1]{}");
        built.build();
        Check.due("built again", -1, built::hub);
        doc.says(22, "Returns how many lines have been said since the start.");
        BranchingStory lines = Check.started("=A 1 2[1]{3}");
        Check.due("two", 2, lines::said);
        doc.says(22, "Returns the number.");
        lines.choose(0);
        Check.due("five", 5, lines::said);
        lines.start();
        Check.due("two again", 2, lines::said);
        Check.due("none", 0, () -> Check.started("=A").said());
        Check.due("new", 0, () -> new BranchingStory().said());
        BranchingStory more = Check.started("=A" + "1 ".repeat(148) + "[1]{}");
        for (int i = 1; i <= 10; i++) {
            int flows = i;
            Check.due("many", 148 * flows, more::said);
            more.choose(0);
        }
    }

    private void positions() {
        doc.says(18, "Returns how many choices are offered.");
        Check.due("offered", 2, () -> Check.started("=A[1]{}[2?a]{}[3]{}").offered());
        doc.says(18, "Returns the number.");
        Check.due("new", 0, () -> new BranchingStory().offered());
        Check.due("built", 0, () -> Check.built("=A[1]{}").offered());
        Check.due("one", 1, () -> Check.started("=A[1]{}").offered());
        Check.due("16", 16, () -> Check.started("=A" + "[1]{}".repeat(16)).offered());
        Check.due("in an ending", 0, () -> Check.started("=A[1]{}.1").offered());
        doc.says(19, "Returns a choice that is offered.");
        BranchingStory s = Check.started("=A[1]{}[2?a]{}[3]{}");
        Check.due("choice", 2, () -> s.choice(1));
        doc.says(19, "- `position`: its position, from 0");
        Check.due("position 0", 0, () -> s.choice(0));
        Check.due("position 15", 15, () -> Check.started("=A" + "[1]{}".repeat(16)).choice(15));
        doc.says(19, "Returns the choice.");
        Check.due("the 16th at 0", 15, () -> Check.started("=A" + "[1?a]{}".repeat(15) + "[2]{}").choice(0));
        doc.says(19, "Throws `IndexOutOfBoundsException` if there is no such position");
        for (int position : new int[] {-1, 2, 3, 16, 31, 32, MIN, MAX}) {
            Calls.refusedIndex("choice " + position, SMALL, "build", "start", "choose 0");
        }
        for (int position : new int[] {-1, 0, 1, MAX}) {
            Calls.refusedIndex("choice " + position, "");
            Calls.refusedIndex("choice " + position, SMALL, "build");
            Calls.refusedIndex("choice " + position, SMALL, "build", "start", "choose 0", "choose 1");
            Calls.refusedIndex("choice " + position, "=A[1]{}<", "build", "start");
            Calls.refusedIndex("choice " + position, "=A[1]{}>A", "build", "start");
            Calls.refusedIndex("choice " + position, SMALL, "build", "start", "build");
        }
        Calls.refusedIndex("choice 16", "=A" + "[1]{}".repeat(16), "build", "start");
    }

    private void flagCall() {
        doc.says(20, "Returns the value of a flag.");
        Check.due("raised", 1, () -> Check.started("=A+c").flag(2));
        doc.says(20, "- `flag`: 0 to 5");
        BranchingStory s = Check.started("=A+a+f");
        Check.due("a", 1, () -> s.flag(0));
        Check.due("f", 1, () -> s.flag(5));
        doc.says(20, "Returns 0 or 1; 0 if the status is 0.");
        Check.due("b", 0, () -> s.flag(1));
        s.build();
        for (int i = 0; i < 6; i++) {
            int flag = i;
            Check.due("new", 0, () -> new BranchingStory().flag(flag));
            Check.due("built behind a play", 0, () -> s.flag(flag));
        }
        doc.says(20, "Throws `IllegalArgumentException` if flag is out of range");
        for (int flag : new int[] {-1, 6, 32, MIN, MAX}) {
            Calls.refusedArgument("flag " + flag, "");
            Calls.refusedArgument("flag " + flag, SMALL, "build", "start", "choose 0", "choose 0");
        }
    }

    private void meterCall() {
        doc.says(21, "Returns the value of a meter.");
        Check.due("y", 4, () -> Check.started("=Ay=4").meter(1));
        doc.says(21, "- `meter`: 0 to 2");
        BranchingStory s = Check.started("=Ax=9z=1");
        Check.due("x", 9, () -> s.meter(0));
        Check.due("z", 1, () -> s.meter(2));
        doc.says(21, "Returns 0 to 9; 0 if the status is 0.");
        Check.due("y", 0, () -> s.meter(1));
        s.build();
        for (int i = 0; i < 3; i++) {
            int meter = i;
            Check.due("new", 0, () -> new BranchingStory().meter(meter));
            Check.due("built behind a play", 0, () -> s.meter(meter));
        }
        doc.says(21, "Throws `IllegalArgumentException` if meter is out of range");
        for (int meter : new int[] {-1, 3, 8, MIN, MAX}) {
            Calls.refusedArgument("meter " + meter, "");
            Calls.refusedArgument("meter " + meter, SMALL, "build", "start", "choose 0", "choose 0");
        }
    }

    private void lines() {
        doc.says(23, "Returns one of the latest lines that have been said.");
        BranchingStory s = Check.started("=A 1 2 3 4 5 6 7 8 9 10 11 12 13 14 15 16 17 18 19 20 21");
        Check.due("the fifth from behind", 17, () -> s.line(4));
        doc.says(23, "- `back`: 0 for the latest one, 1 for the one before it, and so on, up to 19");
        for (int i = 0; i < 20; i++) {
            int back = i;
            Check.due("line " + i, 21 - i, () -> s.line(back));
        }
        doc.says(23, "Returns its number; NONE if there were not so many.");
        for (int many = 0; many <= 22; many++) {
            BranchingStory t = Check.started("=A" + "0 ".repeat(many));
            for (int i = 0; i < 20; i++) {
                int back = i;
                Check.due("line " + i + " of " + many, i < many ? 0 : -1, () -> t.line(back));
            }
        }
        Check.due("new", -1, () -> new BranchingStory().line(0));
        Check.due("built", -1, () -> Check.built("=A 1").line(0));
        // Lines that are taken back are not there any more.
        BranchingStory u = Check.started("=A 1[1]{2 3}");
        u.choose(0);
        u.back();
        Check.due("the first line", 1, () -> u.line(0));
        Check.due("no other", -1, () -> u.line(1));
        doc.says(23, "Throws `IllegalArgumentException` if back is out of range");
        for (int back : new int[] {-1, 20, 21, MIN, MAX}) {
            Calls.refusedArgument("line " + back, "");
            Calls.refusedArgument("line " + back, "=A" + "1 2 3 ".repeat(10) + "[1]{}", "build", "start", "choose 0");
        }
    }
}
