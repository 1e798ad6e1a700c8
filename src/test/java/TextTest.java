/** Promises 1 to 5: a new object, type, clearText, fault, build. */
public final class TextTest {
    public static void main(String[] args) {
        newObject();
        type();
        clearText();
        faultOrdinary();
        faultOfEachByte();
        faultNumbers();
        faultNames();
        faultLimits();
        faultDepth();
        faultBlanks();
        faultChangesNothing();
        build();
        buildForgets();
        buildFails();
        readingOften();
        Check.end();
    }

    private static void fault(int want, String text) {
        BranchingStory s = Check.typed(text);
        Check.due("fault of '" + text + "'", want, s::fault);
        Check.same("build of '" + text + "'", Check.answer(s::build).startsWith("throws") ? "no" : "yes",
                want == -1 ? "yes" : "no");
    }

    private static void newObject() {
        BranchingStory s = new BranchingStory();
        Check.due("NONE", -1, () -> BranchingStory.NONE);
        Check.due("status of a new object", 0, s::status);
        Check.due("fault of a new object", 0, s::fault);
        for (int what = 0; what < 3; what++) {
            int w = what;
            Check.due("count(" + w + ") of a new object", 0, () -> s.count(w));
        }
        Check.due("node", -1, s::node);
        Check.due("hub", -1, s::hub);
        Check.due("ending", -1, s::ending);
        Check.due("offered", 0, s::offered);
        Check.due("said", 0, s::said);
        Check.due("flag", 0, () -> s.flag(5));
        Check.due("meter", 0, () -> s.meter(2));
        Check.state("start without a story", s::start);
        Check.state("explore without a story", () -> s.explore(300));
        Check.state("analyze without a story", s::analyze);
        Check.state("build of an empty text", s::build);
        Check.due("length of a new text", 0, s::clearText);
    }

    private static void type() {
        BranchingStory s = new BranchingStory();
        Check.argument("type(-1)", () -> s.type(-1));
        Check.argument("type(256)", () -> s.type(256));
        Check.argument("type(min)", () -> s.type(Integer.MIN_VALUE));
        Check.argument("type(max)", () -> s.type(Integer.MAX_VALUE));
        Check.due("type(0)", 1, () -> s.type(0));
        Check.due("type(255)", 2, () -> s.type(255));
        for (int i = 3; i <= 400; i++) {
            Check.due("type of byte " + i, i, () -> s.type(65));
        }
        Check.state("type of byte 401", () -> s.type(65));
        Check.argument("a wrong code comes first", () -> s.type(256));
        Check.due("400 bytes stay", 400, s::clearText);
        Check.due("type behind clearText", 1, () -> s.type(61));
    }

    private static void clearText() {
        BranchingStory s = Check.typed("=A");
        Check.due("clearText", 2, s::clearText);
        Check.due("clearText again", 0, s::clearText);
        Check.due("fault of the empty text", 0, s::fault);
        BranchingStory t = Check.started("=A[1]{}");
        t.clearText();
        Check.due("the story stays", 1, () -> t.count(1));
        Check.due("the play stays", 1, t::status);
    }

    private static void faultOrdinary() {
        fault(-1, "=A");
        fault(-1, "=A#");
        fault(-1, "=A 1 x+2 [1]{+a >B}[2?x>3]{.1}=B#2[5?a&y=1]{.2}[6]{-a <}");
        fault(-1, "=A?!a&b&x<1&y>2&z=3{1}{2}");
        fault(-1, "=A?a{}{}=B?b{}");
        fault(-1, "=A<=B");
        fault(-1, "=Ax=1=B");
        fault(4, "=Ax==B");
        fault(0, "");
        fault(1, "=");
        fault(0, "A");
        fault(0, "1");
        fault(2, "=A}");
        fault(2, "=A{");
        fault(3, "=A##");
        fault(2, "=A!");
        fault(2, "=A&");
        fault(2, "=A]");
        fault(4, "=A 1#");
    }

    private static void faultOfEachByte() {
        String story = "=A#1+a-bx=1y+2z-3?!a&b&x<1&y>2&z=3{4}{5}[67?c]{>A<.8}";
        fault(-1, story);
        // Everywhere else the text would end too early.
        String canEnd = " 2 3 4 6 8 11 14 17 37 40 ";
        for (int length = 0; length < story.length(); length++) {
            fault(canEnd.contains(" " + length + " ") ? -1 : length, story.substring(0, length));
        }
        // A byte that stands nowhere is a fault wherever it stands; so is one beyond 127.
        for (int at = 0; at <= story.length(); at++) {
            for (char code : new char[] {'@', 'M', 'g', 'w', (char) 0, (char) 255, '\t'}) {
                fault(at, story.substring(0, at) + code + story.substring(at));
            }
        }
    }

    private static void faultNumbers() {
        fault(-1, "=A 12");
        fault(-1, "=A1 2 34");
        fault(-1, "=A00");
        fault(3, "=A 123");
        fault(3, "=A 1234>");
        fault(3, "=A[123]{}");
        fault(5, "=A[1 2]{}");
        fault(3, "=A[]{}");
        fault(3, "=A[a]{}");
        fault(-1, "=Ax=123");
        fault(5, "=Ax=1234");
        fault(-1, "=A.123");
        fault(4, "=A.1234");
        fault(6, "=A?x<12{}");
        fault(5, "=A12 34567");
        fault(4, "=A1 123 }");
        fault(2, "=A123456");
    }

    private static void faultNames() {
        fault(3, "=A=A");
        fault(3, "=A=A#1[1]{}");
        fault(-1, "=A=B=C=D=E=F=G=H=I=J=K=L");
        fault(25, "=A=B=C=D=E=F=G=H=I=J=K=L=M");
        fault(25, "=A=B=C=D=E=F=G=H=I=J=K=L=C");
        fault(3, "=A>B");
        fault(5, "=A 7>C");
        fault(5, "=A>A>C>D");
        fault(-1, "=A>B=B>A");
        fault(3, "=A>C>D=B");
        fault(3, "=A>M");
        fault(3, "=A>a");
        // A fault of the grammar comes before a name of no node, wherever it stands.
        fault(6, "=A>C=B}");
        fault(7, "=A>C[1]");
        fault(5, "=A>C=");
        fault(7, "=A>C=B=");
        fault(7, "=A>C=B=B");
        fault(5, "=A>C=A");
        // The sign of a meter in a condition is no statement.
        fault(-1, "=A?x>1{}");
        fault(10, "=A?x>1{} >C");
    }

    private static void faultLimits() {
        fault(-1, "=A" + Check.repeat("[1]{}", 16));
        fault(2 + 16 * 5, "=A" + Check.repeat("[1]{}", 17));
        fault(2 + 16 * 5 + 1, "=A" + Check.repeat("[1]{}", 16) + " [");
        fault(-1, "=A" + Check.repeat("?a{}", 16));
        fault(2 + 16 * 4, "=A" + Check.repeat("?a{}", 17));
        fault(2 + 16 * 4, "=A" + Check.repeat("?a{}", 16) + "?");
        fault(-1, "=A" + Check.repeat("?a{}", 16) + Check.repeat("[1?b]{}", 16));
        fault(2 + 16 * 4 + 16 * 7, "=A" + Check.repeat("?a{}", 16) + Check.repeat("[1?b]{}", 16) + "?");
        fault(-1, "=A" + Check.repeat("[1]{}", 8) + "=B" + Check.repeat("[1]{}", 8));
        fault(84, "=A" + Check.repeat("[1]{}", 8) + "=B" + Check.repeat("[1]{}", 8) + "[1]{}");
        fault(-1, "=A" + Check.repeat("<", 398));
        // Texts of 400 bytes, with as many statements and as many terms as they can have.
        fault(-1, "=A?" + Check.repeat("a&", 197) + "a{}");
        fault(400, "=A?" + Check.repeat("a&", 198) + "a");
        fault(399, "=A?" + Check.repeat("a&", 198) + "&");
    }

    private static void faultDepth() {
        fault(-1, "=A" + Check.repeat("?a{", 5) + Check.repeat("}", 5));
        fault(2 + 15 + 2, "=A" + Check.repeat("?a{", 5) + "?a{}" + Check.repeat("}", 5));
        fault(2 + 20 + 3, "=A" + Check.repeat("[1]{", 5) + "[1]{}" + Check.repeat("}", 5));
        fault(-1, "=A" + Check.repeat("[1]{", 5) + "7<>A" + Check.repeat("}", 5));
        fault(2 + 15 + 2, "=A" + Check.repeat("?a{", 5) + "?b{");
        fault(-1, "=A?a{?a{?a{?a{?a{}{1}}{1}}{1}}{1}}{1}");
        fault(2 + 25 + 2, "=A" + Check.repeat("?a{}{", 5) + "?a{");
        // In a block that is not a node's no node begins, and only there a brace closes.
        fault(5, "=A?a{=B}");
        fault(6, "=A?a{}}");
        fault(8, "=A?a{}{}{}");
        fault(7, "=A[1]{}{}");
        fault(7, "=A?a{}1{}");
    }

    private static void faultBlanks() {
        fault(-1, "  = A # 1 + a x = 1 ? ! a & x < 1 { } { } [ 12 ? y > 3 ] { > A < . 1 }  ");
        fault(3, "   ");
        fault(6, "=A ?  ");
        fault(4, "=A  }");
        fault(5, "=A [ ");
        fault(2, "=A\t1");
        fault(2, "=A\n");
    }

    private static void faultChangesNothing() {
        BranchingStory s = Check.started("=A[1]{.1}[2]{}");
        Check.type(s, "=B}");
        Check.due("fault", 2, s::fault);
        Check.due("fault again", 2, s::fault);
        Check.due("the length stays", 3, s::clearText);
        Check.due("the story stays", 2, () -> s.count(1));
        Check.due("the name stays", 'A', () -> s.name(0));
        Check.due("the play goes on", 2, () -> s.choose(0));
        Check.type(s, "=C");
        Check.due("no fault", -1, s::fault);
        Check.due("still the story of before", 'A', () -> s.name(0));
    }

    private static void build() {
        BranchingStory s = Check.typed("=B#[1]{}=A?a{}");
        Check.due("build", 2, s::build);
        Check.due("the text stays", 14, s::clearText);
        Check.type(s, "=C=D=E");
        Check.due("build of another text", 3, s::build);
        Check.due("its choices", 0, () -> s.count(1));
        Check.due("its tests", 0, () -> s.count(2));
        Check.due("its names", 'E', () -> s.name(2));
        Check.isFalse("its first node is no hub", () -> s.isHub(0));
        Check.due("build again", 3, s::build);
    }

    private static void buildForgets() {
        BranchingStory s = Check.started("=A 7+ax+1[1]{}=B#");
        s.choose(0);
        s.explore(9);
        s.analyze();
        Check.due("build of the same text", 2, s::build);
        Check.due("status", 0, s::status);
        Check.due("node", -1, s::node);
        Check.due("hub", -1, s::hub);
        Check.due("offered", 0, s::offered);
        Check.due("flag", 0, () -> s.flag(0));
        Check.due("meter", 0, () -> s.meter(0));
        Check.due("said", 0, s::said);
        Check.due("line", -1, () -> s.line(0));
        Check.state("back", s::back);
        Check.state("choose", () -> s.choose(0));
        Check.state("isComplete", s::isComplete);
        Check.state("outcomes", () -> s.outcomes(0));
        Check.state("possible", () -> s.possible(0));
        Check.state("isReached", () -> s.isReached(0, 0));
    }

    private static void readingOften() {
        BranchingStory s = Check.typed("=A?a&b&c&d&e&f&!a&!b&!c&!d&!e&!f{1}{2}=B>C 3=C[1]{}");
        for (int turn = 0; turn < 60; turn++) {
            Check.due("fault", -1, s::fault);
            Check.due("build", 3, s::build);
        }
        s.start();
        Check.due("the condition does not hold", 2, () -> s.line(0));
        Check.due("one choice", 1, () -> s.count(1));
    }

    private static void buildFails() {
        BranchingStory s = Check.started("=A 7+ax+1[1]{}");
        s.choose(0);
        s.explore(9);
        s.analyze();
        s.type('}');
        Check.state("build with a fault", s::build);
        Check.due("status", 1, s::status);
        Check.due("meter", 2, () -> s.meter(0));
        Check.due("said", 2, s::said);
        Check.isTrue("still explored", s::isComplete);
        Check.due("still analyzed", 0, () -> s.possible(0));
        Check.due("back", 0, s::back);
        Check.due("the text stays", 15, s::clearText);
        Check.state("build of the empty text", s::build);
        Check.due("start", 1, s::start);
    }
}
