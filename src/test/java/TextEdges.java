/** The sentences on the text: the grammar, the fault, and promises 1 to 5. */
final class TextEdges {
    private static final String NAMES = "ABCDEFGHIJKL";
    private static final String DIGITS = "0123456789";
    private static final String FLAGS = "abcdef";
    private static final String BEGINS = DIGITS + "+-xyz?[><.";
    private static final String TERM_BEGINS = "!" + FLAGS + "xyz";
    private static final String ALL_NODES = "=A=B=C=D=E=F=G=H=I=J=K=L";

    private final Doc doc;

    TextEdges(Doc doc) {
        this.doc = doc;
    }

    void check() {
        length();
        story();
        statements();
        choicesAndTests();
        conditions();
        letters();
        numbers();
        blanks();
        meterDigits();
        hubs();
        numbering();
        names();
        sixteen();
        depth();
        fault();
        faultsWithRules();
        missingNames();
        newObject();
        type();
        clearText();
        faultCall();
        build();
        buildForgets();
        buildFails();
    }

    private static void fault(int want, String text) {
        BranchingStory s = Check.typed(text);
        Check.due("fault of '" + text + "'", want, s::fault);
        String built = Check.answer(s::build);
        Check.same("build of '" + text + "'", built.startsWith("throws") ? built : "builds",
                want == -1 ? "builds" : "throws.IllegalStateException");
    }

    private static void fine(String text) {
        fault(-1, text);
    }

    /** Of all 256 bytes just these can stand behind the text. */
    private static void behind(String text, String codes) {
        for (int code = 0; code < 256; code++) {
            String longer = text + (char) code;
            int fault = Check.typed(longer).fault();
            boolean stands = codes.indexOf(code) >= 0;
            Check.same("byte " + code + " behind '" + text + "'", stands ? fault == -1 || fault == longer.length() ? "stands" : "no"
                    : fault == text.length() ? "stands not" : "stands", stands ? "stands" : "stands not");
        }
    }

    private void length() {
        doc.says(0, "The text has at most 400 bytes.");
        String full = "=A" + "<".repeat(398);
        BranchingStory s = Check.typed(full);
        Check.state("the 401st byte", () -> s.type('<'));
        Check.due("400 bytes have no fault", -1, s::fault);
        Check.due("400 bytes can be built", 1, s::build);
        Check.due("400 bytes are there", 400, s::clearText);
        fault(399, "=A" + "<".repeat(397) + "}");
        fault(400, "=A" + "<".repeat(397) + "+");
        doc.says(0, "Its grammar is:");
        fine("=A#1 23+a-bx=1y+2z-3?!a&b&x<1&y>2&z=3{4}{5}[67?c]{>A<.8}=B");
    }

    private void story() {
        doc.says(0, "story = node { node }");
        fault(0, "");
        fine("=A");
        fine("=A=B");
        fine(ALL_NODES);
        behind("", "= ");
        doc.says(0, "node = \"=\" name [ \"#\" ] block");
        behind("=", NAMES + " ");
        behind("=A", BEGINS + "#= ");
        behind("=A#", BEGINS + "= ");
        fault(1, "=");
        fine("=A#");
        fault(3, "=A##");
        fault(3, "=A<#");
        doc.says(0, "block = { statement }");
        fine("=A<<<<");
        fine("=A?a{}{}[1]{}");
        fine("=A?a{<<}{<<}[1]{<<}");
        behind("=A?a{", BEGINS + "} ");
        behind("=A?a{}{", BEGINS + "} ");
        behind("=A[1]{", BEGINS + "} ");
    }

    private void statements() {
        doc.says(0, "statement = number");
        fine("=A0");
        fine("=A99");
        behind("=A1", BEGINS + "= ");
        behind("=A1 ", BEGINS + "= ");
        doc.says(0, "| ( \"+\" | \"-\" ) flag");
        behind("=A+", FLAGS + " ");
        behind("=A-", FLAGS + " ");
        behind("=A+a", BEGINS + "= ");
        fault(3, "=A+");
        fault(3, "=A-");
        doc.says(0, "| meter ( \"=\" | \"+\" | \"-\" ) digit");
        for (String meter : new String[] {"x", "y", "z"}) {
            behind("=A" + meter, "=+- ");
            fault(3, "=A" + meter);
            for (String sign : new String[] {"=", "+", "-"}) {
                behind("=A" + meter + sign, DIGITS + " ");
                fault(4, "=A" + meter + sign);
                behind("=A" + meter + sign + "0", BEGINS + "= ");
            }
        }
        doc.says(0, "| \">\" name");
        behind(ALL_NODES + ">", NAMES + " ");
        behind("=A>A", BEGINS + "= ");
        fault(3, "=A>");
        doc.says(0, "| \"<\"");
        behind("=A<", BEGINS + "= ");
        doc.says(0, "| \".\" digit");
        behind("=A.", DIGITS + " ");
        behind("=A.9", BEGINS + "= ");
        fault(3, "=A.");
    }

    private void choicesAndTests() {
        doc.says(0, "| \"?\" condition \"{\" block \"}\" [ \"{\" block \"}\" ]");
        behind("=A?", TERM_BEGINS + " ");
        behind("=A?a", "&{ ");
        behind("=A?x<1", "&{ ");
        behind("=A?a{}", BEGINS + "{= ");
        behind("=A?a{}{}", BEGINS + "= ");
        behind("=A?a{?b{}", BEGINS + "{} ");
        behind("=A?a{?b{}{}", BEGINS + "} ");
        behind("=A?a{}<", BEGINS + "= ");
        fault(3, "=A?");
        fault(4, "=A?a");
        fault(5, "=A?a{");
        fault(7, "=A?a{}{");
        doc.says(0, "| \"[\" number [ \"?\" condition ] \"]\" \"{\" block \"}\"");
        behind("=A[", DIGITS + " ");
        behind("=A[1", DIGITS + "?] ");
        behind("=A[1 ", "?] ");
        behind("=A[1?", TERM_BEGINS + " ");
        behind("=A[1?a", "&] ");
        behind("=A[1?x=2", "&] ");
        behind("=A[1?a]", "{ ");
        behind("=A[1]", "{ ");
        behind("=A[1]{}", BEGINS + "= ");
        behind("=A?a{[1]{}", BEGINS + "} ");
        fault(3, "=A[");
        fault(4, "=A[1");
        fault(5, "=A[1]");
        fault(6, "=A[1]{");
    }

    private void conditions() {
        doc.says(0, "condition = term { \"&\" term }");
        behind("=A?a&", TERM_BEGINS + " ");
        behind("=A[1?x>0&", TERM_BEGINS + " ");
        fault(3, "=A?{}");
        fault(5, "=A?a&{}");
        fault(4, "=A?ab{}");
        // As many terms as a text of 400 bytes can have.
        fine("=A?" + "a&".repeat(197) + "a{}");
        doc.says(0, "term = [ \"!\" ] flag");
        behind("=A?!", FLAGS + " ");
        behind("=A?!a", "&{ ");
        fault(4, "=A?!!a{}");
        fault(4, "=A?!x<1{}");
        doc.says(0, "| meter ( \"<\" | \">\" | \"=\" ) digit");
        for (String meter : new String[] {"x", "y", "z"}) {
            behind("=A?" + meter, "<>= ");
            for (String sign : new String[] {"<", ">", "="}) {
                behind("=A?" + meter + sign, DIGITS + " ");
                behind("=A[1?" + meter + sign + "9", "&] ");
            }
        }
    }

    private void letters() {
        doc.says(0, "A name is one of the capital letters A to L");
        fine("=L>L");
        fault(1, "=@");
        fault(1, "=M");
        fault(1, "=a");
        fault(3, "=A>@");
        fault(3, "=A>M");
        fine("=A+f-f?f&!f{}");
        fault(3, "=A+`");
        fault(3, "=A+g");
        fault(3, "=A?g{}");
        fault(4, "=A?!g{}");
        fault(3, "=A+A");
        fault(3, "=A+x");
        fine("=Ax=0z=0?x<0&z<0{}");
        fault(2, "=Aw=0");
        fault(2, "=AX=0");
        fault(3, "=A?w<0{}");
        // The byte behind z is the brace.
        fault(2, "=A{=0");
    }

    private void numbers() {
        doc.says(0, "A number is a longest sequence of digits and has one or two of them; a digit is a single digit.");
        fine("=A1");
        fine("=A12");
        fault(2, "=A123");
        fault(2, "=A000");
        fine("=A[1]{}");
        fine("=A[12]{}");
        fault(3, "=A[123]{}");
        Check.due("12 is one line", 1, () -> Check.started("=A12").said());
        Check.due("the line", 12, () -> Check.started("=A12").line(0));
        Check.due("00 is one line", 1, () -> Check.started("=A00").said());
        Check.due("label 07", 7, () -> Check.built("=A[07]{}").label(0));
        fault(6, "=A?x<12{}");
        Check.due("an ending has one digit", 1, () -> Check.started("=A.12").ending());
    }

    private void blanks() {
        doc.says(0, "Blanks (32) can stand between all of these, but not within a number.");
        String[] parts = {"=", "A", "#", "12", "+", "a", "x", "=", "1", "?", "!", "a", "&", "x", "<", "1", "{", "}", "{", "}",
            "[", "34", "?", "y", ">", "3", "]", "{", ">", "A", "<", ".", "1", "}", "=", "B"};
        fine(String.join("", parts));
        fine(String.join(" ", parts));
        fine(String.join("   ", parts));
        for (int at = 0; at < parts.length; at++) {
            StringBuilder text = new StringBuilder();
            for (int i = 0; i < parts.length; i++) {
                text.append(i == at ? " " : "").append(parts[i]);
            }
            fine(text.toString());
        }
        fault(5, "=A[1 2]{}");
        Check.due("1 and 2 are two lines", 2, () -> Check.started("=A1 2").said());
        Check.due("12 is one", 1, () -> Check.started("=A12").said());
        fine("=A 12 3");
        fault(3, "=A 123");
        for (int code : new int[] {0, 9, 10, 13, 31, 33, 160, 255}) {
            fault(2, "=A" + (char) code + "1");
        }
        // Only blanks: the text ends too early.
        fault(1, " ");
        fault(3, "=  ");
    }

    private void meterDigits() {
        doc.says(0, "(So a digit behind a meter is just that one digit, and further digits begin a number.)");
        for (String sign : new String[] {"=", "+"}) {
            BranchingStory s = Check.started("=Ax" + sign + "12");
            Check.due("the meter", 1, () -> s.meter(0));
            Check.due("the line", 2, () -> s.line(0));
            BranchingStory t = Check.started("=Ax" + sign + "123");
            Check.due("the meter", 1, () -> t.meter(0));
            Check.due("the line of two digits", 23, () -> t.line(0));
        }
        fault(5, "=Ax=1234");
        fault(6, "=Ax=1 234");
    }

    private void hubs() {
        doc.says(0, "A node whose name is followed by # is a hub.");
        BranchingStory s = Check.built("=A#=B=C #=D 1=E=F=G=H=I=J=K=L#");
        for (int i = 0; i < 12; i++) {
            int node = i;
            Check.due("isHub " + i, i == 0 || i == 2 || i == 11 ? 1 : 0, () -> s.isHub(node));
        }
    }

    private void numbering() {
        doc.says(0, "are numbered from 0 in the order in which they begin in the text; a choice or a test stands in the node");
        BranchingStory s = Check.built("=C[1]{[2]{}[3]{}}=A[4]{}=B?a{[5]{?b{[6]{}}}}{[7]{}}[8]{}");
        Check.due("the first node", 'C', () -> s.name(0));
        Check.due("the last node", 'B', () -> s.name(2));
        int[] nodes = {0, 0, 0, 1, 2, 2, 2, 2};
        for (int i = 0; i < nodes.length; i++) {
            int choice = i;
            Check.due("label of " + i, i + 1, () -> s.label(choice));
            Check.due("node of " + i, nodes[i], () -> s.nodeOf(choice));
        }
        BranchingStory deep = Check.built("=A=B?a{?a{?a{?a{[1]{}}}}}");
        Check.due("a choice at depth 5", 1, () -> deep.nodeOf(0));
        // The outer test begins first.
        BranchingStory tests = Check.analyzed("=A?!a{+a?!a{}}?a{}");
        int[] verdicts = {1, 2, 1};
        for (int i = 0; i < verdicts.length; i++) {
            int test = i;
            Check.due("verdict " + i, verdicts[i], () -> tests.verdict(test));
        }
        // A choice or test stands in a hub, too, however deep it is.
        BranchingStory hub = Check.started("=A#?!a{?!b{[1]{}}}");
        Check.due("taken once", 3, () -> hub.choose(0));
    }

    private void names() {
        doc.says(0, "Different nodes have different names.");
        fault(3, "=A=A");
        fault(5, "=A=B=A");
        fault(24 + 1, ALL_NODES + "=A");
        fault(24 + 1, ALL_NODES + "=L");
        behind("=A=", "BCDEFGHIJKL ");
        behind(ALL_NODES + "=", " ");
    }

    private void sixteen() {
        doc.says(0, "There are at most 16 choices and at most 16 tests.");
        fine("=A" + "[1]{}".repeat(16));
        fault(2 + 80, "=A" + "[1]{}".repeat(17));
        fine("=A" + "?a{}".repeat(16));
        fault(2 + 64, "=A" + "?a{}".repeat(17));
        fine("=A" + "[1?a]{}".repeat(16) + "?a{}".repeat(16));
        Check.due("16 choices", 16, () -> Check.built("=A" + "[1]{}".repeat(16)).count(1));
        Check.due("16 tests", 16, () -> Check.built("=A" + "?a{}".repeat(16)).count(2));
        fine("=A" + "[1]{}".repeat(15) + "=B[2]{}");
        fault(2 + 75 + 2 + 5, "=A" + "[1]{}".repeat(15) + "=B[2]{}[3]{}");
        // Also where they stand within each other.
        fine("=A" + "[1]{[2]{}[3]{}[4]{}}".repeat(4));
        fault(2 + 79, "=A" + "[1]{[2]{}[3]{}[4]{}}".repeat(3) + "[1]{[2]{}[3]{}[4]{}[5]{}}");
    }

    private void depth() {
        doc.says(0, "the depth is at most 6");
        fine("=A" + "?a{".repeat(5) + "}".repeat(5));
        fault(2 + 17, "=A" + "?a{".repeat(6) + "}".repeat(6));
        fine("=A" + "[1]{".repeat(5) + "}".repeat(5));
        fault(2 + 23, "=A" + "[1]{".repeat(6) + "}".repeat(6));
        fine("=A" + "?a{}{".repeat(5) + "}".repeat(5));
        fault(2 + 25 + 2, "=A" + "?a{}{".repeat(5) + "?a{}" + "}".repeat(5));
        fine("=A" + "?a{[1]{".repeat(2) + "?a{}" + "}}".repeat(2));
        fault(2 + 14 + 3 + 3, "=A" + "?a{[1]{".repeat(2) + "?a{[1]{}}" + "}}".repeat(2));
        // A second block is as deep as the first; a node's block begins anew at depth 1.
        fine("=A?a{?a{?a{?a{?a{1}{2}}{3}}{4}}{5}}{6}");
        fine("=A" + "?a{".repeat(5) + "}".repeat(5) + "=B" + "?a{".repeat(5) + "}".repeat(5));
        Check.due("a statement at depth 6 is executed", 7, () -> Check.started("=A" + "?!a{".repeat(5) + "7" + "}".repeat(5)).line(0));
    }

    private void fault() {
        doc.says(0, "it is the length of the text if the text ends too early (also if it is empty)");
        fault(0, "");
        String text = "=A#1?a&x<1{2}{3}[4?b]{>A.5}=B";
        // Here a text can end.
        String ends = ",2,3,4,13,16,27,29,";
        for (int length = 0; length <= text.length(); length++) {
            fault(ends.contains("," + length + ",") ? -1 : length, text.substring(0, length));
        }
        fault(0, "}=A");
        fault(2, "=A}}}");
        fault(6, "=A<<<<}");
        // The first one counts, whatever follows.
        fault(2, "=A}=A[123");
        fault(2, "=A&" + "[1]{}".repeat(17));
        fault(4, "=A<<]" + (char) 255);
    }

    private void faultsWithRules() {
        doc.says(0, "A number with more than two digits is a fault at its first digit; the name of a node that has occurred before");
        fault(2, "=A123");
        fault(3, "=A 1234567890");
        fault(5, "=A12 345");
        fault(3, "=A[100]{}");
        fault(7, "=A?a{}{345}");
        fault(3, "=A=A");
        fault(5, "=A = A");
        fault(3, "=A=A#");
        fault(2 + 80, "=A" + "[1]{}".repeat(16) + "[");
        fault(2 + 80 + 2, "=A" + "[1]{}".repeat(16) + "  [1");
        fault(2 + 64, "=A" + "?a{}".repeat(16) + "?");
        fault(2 + 64 + 2, "=A" + "?a{}".repeat(16) + "=B?}");
        fault(2 + 15 + 2, "=A" + "?a{".repeat(5) + "?a{");
        fault(2 + 15 + 3, "=A" + "?a{".repeat(5) + "?a {");
        fault(2 + 20 + 3, "=A" + "[1]{".repeat(5) + "[1]{");
        // A text that ends before it would become a fault ends too early.
        fault(2 + 15 + 2, "=A" + "?a{".repeat(5) + "?a");
        fault(4, "=A= ");
    }

    private void missingNames() {
        doc.says(0, "If there is no such fault, the name behind the first \">\" that is not the name of any node is the fault.");
        fault(3, "=A>B");
        fine("=A>B=B");
        fine("=A>A");
        fault(5, "=A>A>B>C");
        fault(7, "=A>B=B>C>D");
        fault(3, "=A>C=B>D");
        fault(4, "=A> C");
        fault(7, "=A[1]{>B}");
        fault(3, "=A>B=C?x>1{}");
        fine("=A?x>1{}");
        // Such a fault comes behind all others.
        fault(4, "=A>B}");
        fault(7, "=A>B=C=");
        fault(5, "=A>B=A");
        fault(4, "=A>B123");
        fault(4 + 80, "=A>B" + "[1]{}".repeat(17));
        fault(4 + 64, "=A>B" + "?a{}".repeat(17));
        fault(4 + 17, "=A>B" + "?a{".repeat(6) + "}".repeat(6));
        fault(6, "=A>B?a");
    }

    private void newObject() {
        doc.says(1, "Creates an object with an empty text and without a story.");
        Check.due("the text is empty", 0, () -> new BranchingStory().clearText());
        Check.due("the first byte", 1, () -> new BranchingStory().type(0));
        Check.due("its fault", 0, () -> new BranchingStory().fault());
        Check.state("build", () -> new BranchingStory().build());
        for (int i = 0; i < 3; i++) {
            int what = i;
            Check.due("count " + i, 0, () -> new BranchingStory().count(what));
        }
        Check.index("name", () -> new BranchingStory().name(0));
        Check.index("label", () -> new BranchingStory().label(0));
        Check.state("start", () -> new BranchingStory().start());
        Check.state("explore", () -> new BranchingStory().explore(1));
        Check.state("analyze", () -> new BranchingStory().analyze());
        Check.due("status", 0, () -> new BranchingStory().status());
        doc.says(0, "The constants: `NONE = -1`: There is none.");
        Check.due("NONE", -1, () -> BranchingStory.NONE);
    }

    private void type() {
        doc.says(2, "Appends a byte to the text.");
        BranchingStory s = Check.typed("=A");
        Check.due("no fault", -1, s::fault);
        s.type('}');
        Check.due("a fault at its end", 2, s::fault);
        doc.says(2, "- `code`: 0 to 255");
        BranchingStory t = new BranchingStory();
        for (int i = 0; i < 256; i++) {
            int code = i;
            Check.due("type " + i, i + 1, () -> t.type(code));
        }
        doc.says(2, "Returns the length of the text then.");
        BranchingStory u = new BranchingStory();
        for (int i = 1; i <= 400; i++) {
            Check.due("byte " + i, i, () -> u.type(' '));
        }
        doc.says(2, "Throws `IllegalArgumentException` if code is out of range");
        for (int code : new int[] {-1, 256, 257, -256, Integer.MIN_VALUE, Integer.MAX_VALUE}) {
            Calls.refusedArgument("type " + code, "");
            Calls.refusedArgument("type " + code, "=A[1]{}", "build", "start", "choose 0", "explore 9", "analyze");
            Calls.refusedArgument("type " + code, " ".repeat(400));
        }
        doc.says(2, "Throws `IllegalStateException` if the text has 400 bytes");
        Calls.refusedState("type 61", "=A" + "<".repeat(398));
        Calls.refusedState("type 0", "=A" + "<".repeat(398), "build", "start");
        Calls.refusedState("type 255", " ".repeat(400));
        Check.same("the 400th byte", Calls.make(" ".repeat(399)).call("type", 32), "400");
    }

    private void clearText() {
        doc.says(3, "Empties the text.");
        BranchingStory s = Check.typed(" ".repeat(400));
        Check.due("400 bytes", 400, s::clearText);
        Check.due("the fault of the empty text", 0, s::fault);
        Check.due("a byte can be typed again", 1, () -> s.type('='));
        s.type('B');
        Check.due("nothing of before is left", 1, s::build);
        Check.due("its name", 'B', () -> s.name(0));
        BranchingStory t = Check.started("=A 7[1]{}");
        t.choose(0);
        t.explore(9);
        t.analyze();
        t.clearText();
        Check.due("the story stays", 1, () -> t.count(1));
        Check.due("what was said stays", 2, t::said);
        Check.isTrue("the exploration stays", t::isComplete);
        Check.due("the analysis stays", 0, () -> t.possible(0));
        Check.due("the history stays", 0, t::back);
        doc.says(3, "Returns the length that it had.");
        Check.due("of an empty text", 0, () -> new BranchingStory().clearText());
        Check.due("of one byte", 1, () -> Check.typed("=").clearText());
        BranchingStory u = Check.typed("=A" + "<".repeat(398));
        Check.due("of 400 bytes", 400, u::clearText);
        Check.due("of the text that is empty then", 0, u::clearText);
    }

    private void faultCall() {
        doc.says(4, "Returns the fault of the text.");
        BranchingStory s = Check.started("=A 7[1]{}");
        Check.type(s, "=B=B");
        Check.due("fault", 3, s::fault);
        Check.due("fault again", 3, s::fault);
        Check.due("the story is another one still", 'A', () -> s.name(0));
        Check.due("it waits still", 1, s::status);
        Check.due("the text stays", 4, s::clearText);
        // Of the texts before it nothing is left.
        String[] texts = {"=A5>B=B", "=A", "=A5>C", "=A[1]{>B}=B?a{<}{.1}", "=A[1", "=L#", "=A>A>A>A", "=A?x<3&y=2{"};
        int[] faults = {-1, -1, 4, -1, 4, -1, -1, 11};
        for (int before = 0; before < texts.length; before++) {
            for (int after = 0; after < texts.length; after++) {
                BranchingStory u = Check.typed(texts[before]);
                Check.due("fault of " + texts[before], faults[before], u::fault);
                Check.type(u, texts[after]);
                Check.due(texts[after] + " behind " + texts[before], faults[after], u::fault);
            }
        }
        doc.says(4, "Returns the fault; NONE if there is none.");
        Check.due("none", -1, () -> Check.typed("=A").fault());
        Check.due("at 0", 0, () -> Check.typed("}").fault());
        Check.due("at the end of 400 bytes", 399, () -> Check.typed("=A" + "<".repeat(397) + "}").fault());
        Check.due("behind 400 bytes", 400, () -> Check.typed("=A" + "<".repeat(397) + ".").fault());
        BranchingStory t = Check.typed("=A[1]{");
        Check.due("too early", 6, t::fault);
        t.type('}');
        Check.due("completed", -1, t::fault);
    }

    private void build() {
        doc.says(5, "Makes the text the story, in place of the one that there was.");
        BranchingStory s = Check.started("=A#[1]{.1}[2]{}?a{}?b{}=B#");
        Check.type(s, "=C 5");
        Check.due("build", 1, s::build);
        Check.due("name", 'C', () -> s.name(0));
        Check.index("no second node", () -> s.name(1));
        Check.isFalse("no hub", () -> s.isHub(0));
        Check.due("no choices", 0, () -> s.count(1));
        Check.due("no tests", 0, () -> s.count(2));
        Check.due("it is played", 3, s::start);
        Check.due("with its line", 5, () -> s.line(0));
        // However often, and with texts that have a fault between them.
        BranchingStory often = new BranchingStory();
        for (int turn = 0; turn < 6; turn++) {
            Check.type(often, "=A#[1]{}?" + "!a&".repeat(8) + "a{1}{2}");
            Check.due("build", 1, often::build);
            Check.isTrue("a hub", () -> often.isHub(0));
            Check.due("one choice", 1, () -> often.count(1));
            Check.due("one test", 1, () -> often.count(2));
            often.start();
            Check.due("its condition", 2, () -> often.line(0));
            Check.type(often, "=B#[1]{}}");
            Check.due("a fault", 8, often::fault);
            Check.type(often, "=C");
            Check.due("build of another one", 1, often::build);
            Check.isFalse("no hub", () -> often.isHub(0));
            Check.due("no choice", 0, () -> often.count(1));
            Check.due("no test", 0, () -> often.count(2));
        }
        BranchingStory terms = Check.typed("=A?" + "!a&".repeat(60) + "b{1}{2}");
        for (int turn = 0; turn < 20; turn++) {
            Check.due("no fault", -1, terms::fault);
            Check.due("build", 1, terms::build);
        }
        terms.start();
        Check.due("the condition with 61 terms", 2, () -> terms.line(0));
        doc.says(5, "The text stays.");
        Check.due("fault", -1, s::fault);
        Check.due("build again", 1, s::build);
        Check.due("length", 4, s::clearText);
        doc.says(5, "Returns the number of nodes.");
        for (int nodes = 1; nodes <= 12; nodes++) {
            String text = ALL_NODES.substring(0, 2 * nodes);
            Check.due("build of " + text, nodes, () -> Check.typed(text).build());
        }
    }

    private void buildForgets() {
        doc.says(5, "The status is 0 then, nothing can be taken back, there are no results of exploring and analyzing");
        // With each status from 1 to 4, and without a start.
        String[] behind = {"", "start", "start;choose 0", "start;choose 1", "start;choose 2", "start;choose 3;choose 3"};
        for (String calls : behind) {
            Calls c = Calls.make("=A#7+ax=5[1]{.1}[2]{>B}[3]{>C}[4]{y+1}=B=C>C", "build");
            for (String call : calls.isEmpty() ? new String[0] : calls.split(";")) {
                c.written(call);
            }
            c.written("explore 9");
            c.written("analyze");
            Check.same("build behind " + calls, c.written("build"), "3");
            String[] zero = {"status", "offered", "said", "flag 0", "meter 0"};
            for (String call : zero) {
                Check.same(call + " behind " + calls, c.written(call), "0");
            }
            String[] none = {"node", "hub", "ending", "line 0", "line 19"};
            for (String call : none) {
                Check.same(call + " behind " + calls, c.written(call), "-1");
            }
            String[] refused = {"back", "choose 0", "isComplete", "wayLength 1", "way 1 0", "outcomes 1", "occurred 0 7",
                "isReached 0 0", "lowest 0 0", "greatest 0 0", "values 0 0", "hubs 0", "verdict 0",
                "possible 0"};
            for (String call : refused) {
                Check.same(call + " behind " + calls, c.written(call), "throws.IllegalStateException");
            }
        }
    }

    private void buildFails() {
        doc.says(5, "Throws `IllegalStateException` if the text has a fault");
        for (String text : new String[] {"", "=", "=A}", "=A123", "=A=A", "=A>B", "=A" + "[1]{}".repeat(17), "=A" + "?a{}".repeat(17),
            "=A" + "?a{".repeat(6) + "}".repeat(6)}) {
            Calls.refusedState("build", text);
        }
        for (String text : new String[] {"", "=B}", "=B[1]{}[2]{}[3]{}>C"}) {
            Calls.refusedState("build", "=A 7[1]{x+1}[2]{.1}", "build", "start", "choose 0", "choose 0", "explore 30", "analyze",
                    "text " + text);
        }
        Calls.refusedState("build", " ".repeat(400));
        Check.same("without a fault", Calls.make("=A").call("build"), "1");
    }
}
