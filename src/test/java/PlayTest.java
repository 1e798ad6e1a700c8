/** Promises 11 to 23: start, choose, back and what is told of the story that is played. */
public final class PlayTest {
    public static void main(String[] args) {
        start();
        choose();
        chooseFails();
        blocksOfChoices();
        conditions();
        meters();
        flags();
        jumps();
        hubs();
        hubChoices();
        endings();
        flowLimit();
        flowLimitOfChoice();
        back();
        backHistory();
        backLines();
        offered();
        lines();
        wrongArguments();
        Check.end();
    }

    private static void start() {
        BranchingStory s = Check.built("=A 7+ax+1[1]{}");
        Check.due("start", 1, s::start);
        s.choose(0);
        s.choose(0);
        Check.due("x", 3, () -> s.meter(0));
        Check.due("start anew", 1, s::start);
        Check.due("x then", 1, () -> s.meter(0));
        Check.due("said then", 1, s::said);
        Check.due("line(1) then", -1, () -> s.line(1));
        Check.state("back then", s::back);
        Check.due("start of a dead end", 3, () -> Check.built("=A").start());
        Check.due("start of an ending", 2, () -> Check.built("=A.0").start());
        Check.due("start of a loop", 4, () -> Check.built("=A>A").start());
        Check.state("start without a story", () -> Check.typed("=A").start());
        BranchingStory far = Check.started("=A[1]{>B}=B#[2]{}");
        far.choose(0);
        Check.due("a hub at last", 1, far::hub);
        far.start();
        Check.due("no hub at the start", -1, far::hub);
        BranchingStory hub = Check.started("=A#[1]{}[2]{}");
        hub.choose(0);
        hub.start();
        Check.due("no choice has been taken", 2, hub::offered);
    }

    private static void choose() {
        BranchingStory s = Check.started("=A[1]{.1}[2]{>B}[3]{x+1}=B[4]{.4}[5]{>A}");
        Check.due("choose 2", 1, () -> s.choose(2));
        Check.due("the node is entered again", 3, s::offered);
        Check.due("x", 1, () -> s.meter(0));
        Check.due("choose 1", 1, () -> s.choose(1));
        Check.due("node", 1, s::node);
        Check.due("choice(0)", 3, () -> s.choice(0));
        Check.due("choose 1 of B", 1, () -> s.choose(1));
        Check.due("choose 0", 2, () -> s.choose(0));
        Check.due("ending", 1, s::ending);
    }

    private static void chooseFails() {
        BranchingStory s = Check.started("=A[1]{.1}[2]{}");
        Check.index("choose 2", () -> s.choose(2));
        Check.index("choose -1", () -> s.choose(-1));
        Check.index("choose max", () -> s.choose(Integer.MAX_VALUE));
        Check.state("nothing was recorded", s::back);
        Check.due("it waits still", 2, s::offered);
        s.choose(0);
        Check.state("choose at the end", () -> s.choose(0));
        Check.state("the state comes first", () -> s.choose(-1));
        Check.state("choose before the start", () -> Check.built("=A[1]{}").choose(0));
        Check.state("choose in a dead end", () -> Check.started("=A").choose(0));
        Check.state("choose in a loop", () -> Check.started("=A>A").choose(0));
    }

    private static void blocksOfChoices() {
        // Choices within a choice's block are offered by it, and behind them the node is not entered.
        BranchingStory s = Check.started("=A 1[1]{2[2]{3}[3]{4>A}}[4]{5}");
        s.choose(0);
        Check.due("two inner choices", 2, s::offered);
        Check.due("the first of them", 1, () -> s.choice(0));
        Check.due("the line", 2, () -> s.line(0));
        s.choose(0);
        Check.due("the node anew", 1, () -> s.line(0));
        Check.due("the inner line", 3, () -> s.line(1));
        Check.due("the outer choices", 3, () -> s.choice(1));
        // An empty block of a choice leads to the node, a jump withdraws what was offered before it.
        Check.due("a jump withdraws", 0, () -> Check.started("=A[1]{}[2]{}>B=B").offered());
        BranchingStory t = Check.started("=A[1]{}[2]{}>B=B[3]{}");
        Check.due("only the choice of B", 2, () -> t.choice(0));
        Check.due("only one", 1, t::offered);
    }

    private static void conditions() {
        Check.due("a flag", 1, () -> Check.started("=A+a?a{1}{2}").line(0));
        Check.due("a flag that is 0", 2, () -> Check.started("=A?a{1}{2}").line(0));
        Check.due("not", 1, () -> Check.started("=A?!a{1}{2}").line(0));
        Check.due("not, with 1", 2, () -> Check.started("=A+a?!a{1}{2}").line(0));
        for (int v = 0; v <= 9; v++) {
            for (int d = 0; d <= 9; d++) {
                String text = "=Ay=" + v + "?y<" + d + "{1}{2}?y>" + d + "{3}{4}?y=" + d + "{5}{6}";
                BranchingStory s = Check.started(text);
                Check.due("less " + text, v < d ? 1 : 2, () -> s.line(2));
                Check.due("greater " + text, v > d ? 3 : 4, () -> s.line(1));
                Check.due("equal " + text, v == d ? 5 : 6, () -> s.line(0));
            }
        }
        Check.due("all terms", 1, () -> Check.started("=A+ax=5?a&!b&x>4&x<6&x=5&z=0{1}{2}").line(0));
        Check.due("one term fails", 2, () -> Check.started("=A+ax=5?a&!b&x>4&x<6&x=5&z>0{1}{2}").line(0));
        Check.due("no second block", 3, () -> Check.started("=A 3?a{1}").line(0));
        Check.due("what follows a test", 4, () -> Check.started("=A?a{1}{?b{2}{3}}4").line(0));
        BranchingStory s = Check.started("=A+b[1?a]{}[2?b]{}[3?!b]{}[4?b&x<1]{}");
        Check.due("choices with conditions", 2, s::offered);
        Check.due("the first", 1, () -> s.choice(0));
        Check.due("the second", 3, () -> s.choice(1));
    }

    private static void meters() {
        BranchingStory s = Check.started("=Ax=5y=9y+1z=3z-4");
        Check.due("x", 5, () -> s.meter(0));
        Check.due("y at most 9", 9, () -> s.meter(1));
        Check.due("z at least 0", 0, () -> s.meter(2));
        BranchingStory t = Check.started("=Ax+4x+4y=8y-3z+9z+9z-1");
        Check.due("x by 4 twice", 8, () -> t.meter(0));
        Check.due("y less 3", 5, () -> t.meter(1));
        Check.due("z", 8, () -> t.meter(2));
        BranchingStory u = Check.started("=Ax=9x=0x+0y-0");
        Check.due("x set to 0", 0, () -> u.meter(0));
        Check.due("y stays", 0, () -> u.meter(1));
        BranchingStory v = Check.started("=Ax=123");
        Check.due("one digit for the meter", 1, () -> v.meter(0));
        Check.due("the others are a line", 23, () -> v.line(0));
        Check.due("no play", 0, () -> Check.built("=Ax=5").meter(0));
    }

    private static void flags() {
        BranchingStory s = Check.started("=A+a+c+f-c+e-b");
        int[] want = {1, 0, 0, 0, 1, 1};
        for (int i = 0; i < 6; i++) {
            int flag = i;
            Check.due("flag " + i, want[i], () -> s.flag(flag));
        }
        Check.due("no play", 0, () -> Check.built("=A+a").flag(0));
    }

    private static void jumps() {
        BranchingStory s = Check.started("=A 1?!a{2+a>C}3=B 4=C 5>B 6");
        Check.due("lines", 4, s::said);
        Check.due("the last", 4, () -> s.line(0));
        Check.due("the one before", 5, () -> s.line(1));
        Check.due("node", 1, s::node);
        Check.due("status", 3, s::status);
        Check.due("hub", -1, s::hub);
    }

    private static void hubs() {
        Check.due("no hub to return to", 3, () -> Check.started("=A 1<2").status());
        Check.due("the rest is not executed", 1, () -> Check.started("=A 1<2").said());
        BranchingStory s = Check.started("=A>B=B#?x>2{.5}x+1>C=C<");
        Check.due("back at the hub until x is 3", 2, s::status);
        Check.due("x", 3, () -> s.meter(0));
        Check.due("hub", 1, s::hub);
        Check.due("node", 1, s::node);
        BranchingStory t = Check.started("=A#[1]{>B}=B#[2]{>C}=C[3]{<}");
        Check.due("hub A", 0, t::hub);
        t.choose(0);
        Check.due("hub B", 1, t::hub);
        t.choose(0);
        Check.due("hub B at C", 1, t::hub);
        Check.due("node C", 2, t::node);
        Check.due("back at B its choice is taken", 3, () -> t.choose(0));
        Check.due("node B", 1, t::node);
        // A return withdraws what was offered before it.
        BranchingStory u = Check.started("=A#?a{[1]{}}{+a>B}=B[2]{}<");
        Check.due("only the hub's choice", 1, u::offered);
        Check.due("it is", 0, () -> u.choice(0));
        Check.due("hub without a play", -1, () -> Check.built("=A#").hub());
    }

    private static void hubChoices() {
        BranchingStory s = Check.started("=A#[1]{x+1}[2]{[3]{y+1}}[4]{<}");
        s.choose(1);
        Check.due("the inner one", 2, () -> s.choice(0));
        s.choose(0);
        Check.due("two are left", 2, s::offered);
        Check.due("the first", 0, () -> s.choice(0));
        s.choose(1);
        Check.due("one is left", 1, s::offered);
        Check.due("a dead end at last", 3, () -> s.choose(0));
        BranchingStory t = Check.started("=A[1]{}");
        t.choose(0);
        Check.due("not in a hub: offered again", 1, t::offered);
    }

    private static void endings() {
        for (int n = 0; n <= 9; n++) {
            BranchingStory s = Check.started("=A[1]{}." + n);
            Check.due("status", 2, s::status);
            Check.due("ending " + n, n, s::ending);
            Check.due("offered", 0, s::offered);
        }
        Check.due("no ending while it waits", -1, () -> Check.started("=A[1]{.3}").ending());
        Check.due("none in a dead end", -1, () -> Check.started("=A").ending());
        Check.due("none in a loop", -1, () -> Check.started("=A>A").ending());
        BranchingStory s = Check.started("=A[1]{.3}[2]{<}");
        s.choose(0);
        s.back();
        Check.due("none when it is taken back", -1, s::ending);
        s.choose(1);
        Check.due("none in another end", -1, s::ending);
    }

    private static void flowLimit() {
        Check.due("150 statements and a wait", 1, () -> Check.started("=A" + Check.repeat("+a", 149) + "[1]{}").status());
        Check.due("151 statements", 4, () -> Check.started("=A" + Check.repeat("+a", 150) + "[1]{}").status());
        Check.due("150 statements and the end", 3, () -> Check.started("=A" + Check.repeat("+a", 150)).status());
        Check.due("the 150th ends", 2, () -> Check.started("=A" + Check.repeat("+a", 149) + ".1").status());
        Check.due("the 151st would", 4, () -> Check.started("=A" + Check.repeat("+a", 150) + ".1").status());
        BranchingStory s = Check.started("=A" + Check.repeat("1 ", 60) + ">A");
        Check.due("lines before the loop", 148, s::said);
        BranchingStory t = Check.started("=A[1]{}x+1?x>8{7}>A");
        Check.due("a loop withdraws", 0, t::offered);
        Check.due("loop", 4, t::status);
        // Tests count, and so does what is in their blocks.
        Check.due("a test, its statement and 148 more", 3, () -> Check.started("=A?!a{1}" + Check.repeat("-a", 148)).status());
        Check.due("and 149 more", 4, () -> Check.started("=A?!a{1}" + Check.repeat("-a", 149)).status());
        Check.due("a block that is not executed", 3, () -> Check.started("=A?a{1}" + Check.repeat("-a", 149)).status());
        Check.due("jumps count", 4, () -> Check.started("=A>B=B" + Check.repeat("-a", 150)).status());
        Check.due("jumps count once", 3, () -> Check.started("=A>B=B" + Check.repeat("-a", 149)).status());
    }

    private static void flowLimitOfChoice() {
        // The block of the choice and the node behind it are one flow; the first flow is another.
        String text = "=A[1]{" + Check.repeat("-a", 75) + "}" + Check.repeat("-a", 74);
        BranchingStory s = Check.started(text);
        Check.due("150 in the flow", 1, () -> s.choose(0));
        String more = "=A[1]{" + Check.repeat("-a", 75) + "}" + Check.repeat("-a", 75);
        BranchingStory t = Check.started(more);
        Check.due("151 in the flow", 4, () -> t.choose(0));
        Check.due("one state to go back to", 0, t::back);
        Check.due("it waits again", 1, t::status);
        BranchingStory u = Check.started("=A[1]{}");
        for (int i = 0; i < 200; i++) {
            Check.due("each choice is a flow of its own", 1, () -> u.choose(0));
        }
    }

    private static void back() {
        BranchingStory s = Check.started("=A#1[1]{+ax+2>B}=B#2-b[2]{3.7}[3]{}");
        Check.state("nothing to take back", s::back);
        s.choose(0);
        s.choose(0);
        Check.due("ending", 7, s::ending);
        Check.due("back from the ending", 1, s::back);
        Check.due("status", 1, s::status);
        Check.due("node", 1, s::node);
        Check.due("hub", 1, s::hub);
        Check.due("offered", 2, s::offered);
        Check.due("said", 2, s::said);
        Check.due("back", 0, s::back);
        Check.due("node A", 0, s::node);
        Check.due("hub A", 0, s::hub);
        Check.due("flag", 0, () -> s.flag(0));
        Check.due("meter", 0, () -> s.meter(0));
        Check.due("choice", 0, () -> s.choice(0));
        Check.due("said at first", 1, s::said);
        Check.state("no more", s::back);
        Check.due("the choice does not count as taken", 1, () -> s.choose(0));
        s.start();
        Check.state("start empties the history", s::back);
        Check.state("back before the start", () -> Check.built("=A[1]{}").back());
    }

    private static void backHistory() {
        BranchingStory s = Check.started("=A 1[1]{x+1}");
        for (int i = 1; i <= 9; i++) {
            s.choose(0);
        }
        for (int left = 8; left >= 4; left--) {
            Check.due("back to " + left, left, s::back);
            int x = left;
            Check.due("x", x, () -> s.meter(0));
        }
        BranchingStory t = Check.started("=A 1[1]{?x>8{x=0y+1}{x+1}}");
        for (int i = 1; i <= 30; i++) {
            t.choose(0);
        }
        Check.due("x", 0, () -> t.meter(0));
        Check.due("y", 3, () -> t.meter(1));
        for (int left = 11; left >= 0; left--) {
            Check.due("back to " + left, left, t::back);
            int taken = 18 + left;
            Check.due("x behind " + taken, taken % 10, () -> t.meter(0));
            Check.due("y behind " + taken, taken / 10, () -> t.meter(1));
            Check.due("said behind " + taken, taken + 1, t::said);
        }
        Check.state("the oldest ones were dropped", t::back);
        Check.due("it goes on from there", 1, () -> t.choose(0));
        Check.due("x", 9, () -> t.meter(0));
        Check.due("back", 0, t::back);
    }

    private static void backLines() {
        StringBuilder many = new StringBuilder("=A");
        for (int i = 10; i < 35; i++) {
            many.append(i).append(' ');
        }
        many.append("[1]{");
        for (int i = 50; i < 75; i++) {
            many.append(i).append(' ');
        }
        BranchingStory s = Check.started(many + ">B}=B 1[2]{}");
        Check.due("said", 25, s::said);
        s.choose(0);
        Check.due("said then", 51, s::said);
        Check.due("latest then", 1, () -> s.line(0));
        Check.due("one before", 74, () -> s.line(1));
        s.back();
        Check.due("said", 25, s::said);
        for (int i = 0; i < 20; i++) {
            int back = i;
            Check.due("line " + i, 34 - i, () -> s.line(back));
        }
    }

    private static void offered() {
        BranchingStory s = Check.started("=A" + Check.repeat("[1]{}", 16));
        Check.due("offered", 16, s::offered);
        for (int i = 0; i < 16; i++) {
            int position = i;
            Check.due("choice " + i, i, () -> s.choice(position));
        }
        Check.index("choice 16", () -> s.choice(16));
        Check.index("choice -1", () -> s.choice(-1));
        Check.due("offered before the start", 0, () -> Check.built("=A[1]{}").offered());
        Check.index("choice before the start", () -> Check.built("=A[1]{}").choice(0));
        Check.index("choice in the end", () -> Check.started("=A[1]{}.1").choice(0));
        BranchingStory t = Check.started("=A?!a{[1]{}?b{[2]{}}{[3]{[4]{}}}}[5]{}");
        int[] want = {0, 2, 4};
        for (int i = 0; i < want.length; i++) {
            int position = i;
            Check.due("nested choice " + i, want[i], () -> t.choice(position));
        }
    }

    private static void lines() {
        BranchingStory s = Check.started("=A 07 0 99");
        Check.due("said", 3, s::said);
        Check.due("line 0", 99, () -> s.line(0));
        Check.due("line 1", 0, () -> s.line(1));
        Check.due("line 2", 7, () -> s.line(2));
        Check.due("line 3", -1, () -> s.line(3));
        Check.due("line 19", -1, () -> s.line(19));
        Check.argument("line 20", () -> s.line(20));
        Check.argument("line -1", () -> s.line(-1));
        BranchingStory t = Check.started("=A 1 2 3 4 5 6 7 8 9 10 11 12 13 14 15 16 17 18 19 20 21 22");
        Check.due("said 22", 22, t::said);
        for (int i = 0; i < 20; i++) {
            int back = i;
            Check.due("line " + i, 22 - i, () -> t.line(back));
        }
        Check.due("no lines before the start", 0, () -> Check.built("=A 1").said());
        Check.due("no line before the start", -1, () -> Check.built("=A 1").line(0));
    }

    private static void wrongArguments() {
        BranchingStory s = Check.started("=A[1]{}");
        for (int wrong : new int[] {-1, 6, Integer.MIN_VALUE, Integer.MAX_VALUE}) {
            Check.argument("flag " + wrong, () -> s.flag(wrong));
            Check.argument("meter " + wrong, () -> s.meter(wrong));
            Check.index("choice " + wrong, () -> s.choice(wrong));
        }
        Check.argument("meter 3", () -> s.meter(3));
        Check.argument("line max", () -> s.line(Integer.MAX_VALUE));
        Check.argument("line min", () -> s.line(Integer.MIN_VALUE));
        Check.argument("flag without a story", () -> new BranchingStory().flag(6));
        Check.argument("meter without a story", () -> new BranchingStory().meter(3));
        Check.argument("line without a story", () -> new BranchingStory().line(20));
    }
}
