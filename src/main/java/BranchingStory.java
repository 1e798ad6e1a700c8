import java.util.Arrays;

/**
 * A branching story: it is typed as a text, built, played, explored and analyzed.
 *
 * All rows are made with the object and used again by every call, so that no call makes an object
 * (but for the exceptions that the document asks for).
 */
public final class BranchingStory {
    public static final int NONE = -1;

    private static final int MOST_BYTES = 400;
    private static final int MOST_DEPTH = 6;
    private static final int MOST_NODES = 12;
    private static final int MOST_CHOICES = 16;
    private static final int MOST_TESTS = 16;
    // Each statement and each end of a block of a node or choice has a byte of the text of its own.
    private static final int MOST_STATEMENTS = 400;
    // A term has at least two bytes: its flag and the sign behind it.
    private static final int MOST_TERMS = 200;
    private static final int FLAGS = 6;
    private static final int METERS = 3;
    private static final int GREATEST_VALUE = 9;
    private static final int LINES = 100;
    private static final int KEPT_LINES = 20;
    private static final int KEPT_STATES = 12;
    private static final int MOST_FOUND = 300;
    private static final int FLOW_STATEMENTS = 150;
    private static final int OUTCOMES = 12;
    private static final int OUTCOME_DEAD_END = 10;
    private static final int OUTCOME_LOOP = 11;

    private static final int NOT_STARTED = 0;
    private static final int WAITING = 1;
    private static final int ENDED = 2;
    private static final int DEAD_END = 3;
    private static final int LOOP = 4;

    // The sorts of statements. The last two are none of the document's: they mark the ends of the
    // blocks of nodes and choices, and do not count when they are reached.
    private static final int SAY = 0;
    private static final int RAISE = 1;
    private static final int LOWER = 2;
    private static final int SET = 3;
    private static final int ADD = 4;
    private static final int SUBTRACT = 5;
    private static final int TEST = 6;
    private static final int OFFER = 7;
    private static final int GO = 8;
    private static final int RETURN = 9;
    private static final int END = 10;
    private static final int NODE_END = 11;
    private static final int CHOICE_END = 12;

    // The sorts of terms.
    private static final int IS_RAISED = 0;
    private static final int IS_LOWERED = 1;
    private static final int IS_LESS = 2;
    private static final int IS_GREATER = 3;
    private static final int IS_EQUAL = 4;

    private final int[] text = new int[MOST_BYTES];
    private int length;
    private Story story = new Story();
    // fault() and build() read the text into the draft, so that a text with a fault harms no story.
    private Story draft = new Story();
    private final Reader reader = new Reader(draft);
    private final Play play = new Play(story);
    private final History history = new History();
    private final Explorer explorer = new Explorer(story);
    private final Analyzer analyzer = new Analyzer(story);

    public BranchingStory() {
    }

    // ---- text

    public int type(int code) throws IllegalArgumentException, IllegalStateException {
        if (code < 0 || code > 255) {
            throw new IllegalArgumentException("code is out of range");
        }
        if (length < 0 || length >= text.length) {
            throw new IllegalStateException("the text is full");
        }
        text[length] = code;
        length++;
        return length;
    }

    public int clearText() {
        int before = length;
        length = 0;
        return before;
    }

    public int fault() {
        return reader.read(text, length, draft);
    }

    public int build() throws IllegalStateException {
        if (reader.read(text, length, draft) != NONE) {
            throw new IllegalStateException("the text has a fault");
        }
        Story before = story;
        story = draft;
        draft = before;
        play.forget(story);
        history.forget();
        explorer.forget(story);
        analyzer.forget(story);
        return story.nodes;
    }

    // ---- the story

    public int count(int what) throws IllegalArgumentException {
        switch (what) {
            case 0:
                return story.nodes;
            case 1:
                return story.choices;
            case 2:
                return story.tests;
            default:
                throw new IllegalArgumentException("what is out of range");
        }
    }

    public int name(int node) throws IndexOutOfBoundsException {
        needNode(node);
        return story.nodeName[node];
    }

    public boolean isHub(int node) throws IndexOutOfBoundsException {
        needNode(node);
        return story.standsAsHub(node);
    }

    public int label(int choice) throws IndexOutOfBoundsException {
        needChoice(choice);
        return story.choiceLabel[choice];
    }

    public int nodeOf(int choice) throws IndexOutOfBoundsException {
        needChoice(choice);
        return story.choiceNode[choice];
    }

    // ---- playing

    public int start() throws IllegalStateException {
        needStory();
        history.forget();
        play.begin(story);
        return play.status;
    }

    public int choose(int position) throws IllegalStateException, IndexOutOfBoundsException {
        if (play.status != WAITING) {
            throw new IllegalStateException("the story does not wait");
        }
        needPosition(position);
        history.keep(play);
        play.take(position);
        return play.status;
    }

    public int back() throws IllegalStateException {
        if (history.size == 0) {
            throw new IllegalStateException("nothing can be taken back");
        }
        history.restore(play);
        return history.size;
    }

    public int status() {
        return play.status;
    }

    public int ending() {
        return play.status == ENDED ? play.ending : NONE;
    }

    public int node() {
        return play.node;
    }

    public int hub() {
        return play.hub;
    }

    public int offered() {
        return Integer.bitCount(play.offered);
    }

    public int choice(int position) throws IndexOutOfBoundsException {
        needPosition(position);
        return play.choiceAt(position);
    }

    public int flag(int flag) throws IllegalArgumentException {
        needFlag(flag);
        return play.flags >> flag & 1;
    }

    public int meter(int meter) throws IllegalArgumentException {
        needMeter(meter);
        return meterIn(play.meters, meter);
    }

    public int said() {
        return play.lines.count;
    }

    public int line(int back) throws IllegalArgumentException {
        if (back < 0 || back >= KEPT_LINES) {
            throw new IllegalArgumentException("back is out of range");
        }
        return play.lines.before(back);
    }

    // ---- exploring

    public int explore(int limit) throws IllegalArgumentException, IllegalStateException {
        if (limit < 1 || limit > MOST_FOUND) {
            throw new IllegalArgumentException("limit is out of range");
        }
        needStory();
        explorer.search(story, limit);
        return explorer.found;
    }

    public boolean isComplete() throws IllegalStateException {
        needExploration();
        return explorer.complete;
    }

    public int wayLength(int outcome) throws IllegalArgumentException, IllegalStateException {
        needOutcome(outcome);
        needExploration();
        return explorer.endLength[outcome];
    }

    public int way(int outcome, int index)
            throws IllegalArgumentException, IllegalStateException, IndexOutOfBoundsException {
        needOutcome(outcome);
        needExploration();
        // Where there is no way its length is NONE, so that no index is below it.
        if (index < 0 || index >= explorer.endLength[outcome]) {
            throw new IndexOutOfBoundsException("the way has no such index");
        }
        return explorer.positionOnWay(outcome, index);
    }

    public int outcomes(int outcome) throws IllegalArgumentException, IllegalStateException {
        needOutcome(outcome);
        needExploration();
        return explorer.endFlows[outcome];
    }

    public boolean occurred(int what, int number)
            throws IllegalArgumentException, IllegalStateException, IndexOutOfBoundsException {
        if (what < 0 || what > 2) {
            throw new IllegalArgumentException("what is out of range");
        }
        needExploration();
        if (what == 0) {
            needLine(number);
            return explorer.play.lines.ever[number];
        }
        if (what == 1) {
            needNode(number);
            return (explorer.play.entered >> number & 1) == 1;
        }
        needChoice(number);
        return (explorer.everOffered >> number & 1) == 1;
    }

    // ---- analyzing

    public int analyze() throws IllegalStateException {
        needStory();
        analyzer.settle(story);
        return analyzer.reachedNodes();
    }

    public boolean isReached(int what, int number)
            throws IllegalArgumentException, IllegalStateException, IndexOutOfBoundsException {
        if (what < 0 || what > 1) {
            throw new IllegalArgumentException("what is out of range");
        }
        needAnalysis();
        if (what == 0) {
            needNode(number);
            return analyzer.nodeEntry[number] != Knowledge.NOTHING;
        }
        needChoice(number);
        return analyzer.choiceEntry[number] != Knowledge.NOTHING;
    }

    public int lowest(int node, int meter)
            throws IllegalArgumentException, IllegalStateException, IndexOutOfBoundsException {
        needMeter(meter);
        needAnalysis();
        needNode(node);
        long entry = analyzer.nodeEntry[node];
        return entry == Knowledge.NOTHING ? NONE : Knowledge.low(entry, meter);
    }

    public int greatest(int node, int meter)
            throws IllegalArgumentException, IllegalStateException, IndexOutOfBoundsException {
        needMeter(meter);
        needAnalysis();
        needNode(node);
        long entry = analyzer.nodeEntry[node];
        return entry == Knowledge.NOTHING ? NONE : Knowledge.high(entry, meter);
    }

    public int values(int node, int flag)
            throws IllegalArgumentException, IllegalStateException, IndexOutOfBoundsException {
        needFlag(flag);
        needAnalysis();
        needNode(node);
        return Knowledge.flagSet(analyzer.nodeEntry[node], flag);
    }

    public int hubs(int node) throws IllegalStateException, IndexOutOfBoundsException {
        needAnalysis();
        needNode(node);
        return Knowledge.hubSet(analyzer.nodeEntry[node]);
    }

    public int verdict(int test) throws IllegalStateException, IndexOutOfBoundsException {
        needAnalysis();
        if (test < 0 || test >= story.tests || test >= MOST_TESTS) {
            throw new IndexOutOfBoundsException("there is no such test");
        }
        return analyzer.verdicts[test];
    }

    public int possible(int what) throws IllegalArgumentException, IllegalStateException {
        if (what < 0 || what > 1) {
            throw new IllegalArgumentException("what is out of range");
        }
        needAnalysis();
        return what == 0 ? analyzer.endings : analyzer.deadEnds;
    }

    // ---- what a call needs

    private void needStory() {
        if (story.nodes == 0) {
            throw new IllegalStateException("there is no story");
        }
    }

    private void needExploration() {
        if (!explorer.explored) {
            throw new IllegalStateException("this story has not been explored");
        }
    }

    private void needAnalysis() {
        if (!analyzer.settled) {
            throw new IllegalStateException("this story has not been analyzed");
        }
    }

    private void needNode(int node) {
        if (node < 0 || node >= story.nodes || node >= MOST_NODES) {
            throw new IndexOutOfBoundsException("there is no such node");
        }
    }

    private void needChoice(int choice) {
        if (choice < 0 || choice >= story.choices || choice >= MOST_CHOICES) {
            throw new IndexOutOfBoundsException("there is no such choice");
        }
    }

    private void needPosition(int position) {
        if (position < 0 || position >= Integer.bitCount(play.offered)) {
            throw new IndexOutOfBoundsException("there is no such position");
        }
    }

    private static void needLine(int number) {
        if (number < 0 || number >= LINES) {
            throw new IndexOutOfBoundsException("there is no such line");
        }
    }

    private static void needFlag(int flag) {
        if (flag < 0 || flag >= FLAGS) {
            throw new IllegalArgumentException("flag is out of range");
        }
    }

    private static void needMeter(int meter) {
        if (meter < 0 || meter >= METERS) {
            throw new IllegalArgumentException("meter is out of range");
        }
    }

    private static void needOutcome(int outcome) {
        if (outcome < 0 || outcome >= OUTCOMES) {
            throw new IllegalArgumentException("outcome is out of range");
        }
    }

    // ---- what several classes share

    /** The three meters stand in one int, with four bits each. */
    private static int meterIn(int meters, int meter) {
        return meters >> 4 * meter & 15;
    }

    /** The value that a statement of the sort SET, ADD or SUBTRACT makes of a meter's value. */
    private static int changedMeter(int sort, int value, int digit) {
        switch (sort) {
            case ADD:
                return Math.min(value + digit, GREATEST_VALUE);
            case SUBTRACT:
                return Math.max(value - digit, 0);
            default:
                return digit;
        }
    }

    private static int entryOf(int[] row, int index) {
        return index >= 0 && index < row.length ? row[index] : NONE;
    }

    private static void putEntry(int[] row, int index, int value) {
        if (index >= 0 && index < row.length) {
            row[index] = value;
        }
    }

    /** The terms of all conditions of a story, one behind the other. */
    private static final class Terms {
        private int size;
        private final int[] sort = new int[MOST_TERMS];
        private final int[] subject = new int[MOST_TERMS];
        private final int[] digit = new int[MOST_TERMS];

        private void append(int newSort, int newSubject, int newDigit) {
            if (size < 0 || size >= MOST_TERMS) {
                return;
            }
            sort[size] = newSort;
            subject[size] = newSubject;
            digit[size] = newDigit;
            size++;
        }

        private boolean allHold(int from, int to, int flags, int meters) {
            int stop = Math.min(to, size);
            for (int term = Math.max(from, 0); term < MOST_TERMS && term < stop; term++) {
                if (!oneHolds(term, flags, meters)) {
                    return false;
                }
            }
            return true;
        }

        private boolean oneHolds(int term, int flags, int meters) {
            boolean raised = (flags >> subject[term] & 1) == 1;
            int value = meters >> 4 * subject[term] & 15;
            switch (sort[term]) {
                case IS_RAISED:
                    return raised;
                case IS_LOWERED:
                    return !raised;
                case IS_LESS:
                    return value < digit[term];
                case IS_GREATER:
                    return value > digit[term];
                default:
                    return value == digit[term];
            }
        }

        private long truePart(int from, int to, long knowledge) {
            int stop = Math.min(to, size);
            long part = knowledge;
            for (int term = Math.max(from, 0); term < MOST_TERMS && term < stop; term++) {
                if (part != Knowledge.NOTHING) {
                    part = narrowed(term, part);
                }
            }
            return part;
        }

        private long falsePart(int from, int to, long knowledge) {
            boolean isOne = to - from == 1 && from >= 0 && from < size && from < MOST_TERMS;
            return isOne && knowledge != Knowledge.NOTHING ? narrowedByOpposite(from, knowledge) : knowledge;
        }

        private long narrowed(int term, long knowledge) {
            int who = subject[term];
            int bound = digit[term];
            int low = Knowledge.low(knowledge, who);
            int high = Knowledge.high(knowledge, who);
            switch (sort[term]) {
                case IS_RAISED:
                    return Knowledge.keepingFlag(knowledge, who, Knowledge.ONE);
                case IS_LOWERED:
                    return Knowledge.keepingFlag(knowledge, who, Knowledge.ZERO);
                case IS_LESS:
                    return Knowledge.withRange(knowledge, who, low, Math.min(high, bound - 1));
                case IS_GREATER:
                    return Knowledge.withRange(knowledge, who, Math.max(low, bound + 1), high);
                default:
                    return Knowledge.withRange(knowledge, who, Math.max(low, bound), Math.min(high, bound));
            }
        }

        private long narrowedByOpposite(int term, long knowledge) {
            int who = subject[term];
            int bound = digit[term];
            int low = Knowledge.low(knowledge, who);
            int high = Knowledge.high(knowledge, who);
            switch (sort[term]) {
                case IS_RAISED:
                    return Knowledge.keepingFlag(knowledge, who, Knowledge.ZERO);
                case IS_LOWERED:
                    return Knowledge.keepingFlag(knowledge, who, Knowledge.ONE);
                case IS_LESS:
                    return Knowledge.withRange(knowledge, who, Math.max(low, bound), high);
                case IS_GREATER:
                    return Knowledge.withRange(knowledge, who, low, Math.min(high, bound));
                default:
                    return Knowledge.withRange(knowledge, who,
                            low == bound ? low + 1 : low, high == bound ? high - 1 : high);
            }
        }
    }

    /**
     * A story that has been read. Its statements stand in rows in the order of the text, and each
     * of them knows the one that follows when it is finished: behind the last statement in a block
     * of a test it is the one that follows the test. So what follows always stands further behind.
     */
    private static final class Story {
        private int size;
        private final int[] sort = new int[MOST_STATEMENTS];
        // The line, flag, meter, test, choice, node to go to, or ending; for RETURN and the ends
        // of blocks the node or choice in which they stand.
        private final int[] who = new int[MOST_STATEMENTS];
        private final int[] digit = new int[MOST_STATEMENTS];
        private final int[] next = new int[MOST_STATEMENTS];
        private final int[] first = new int[MOST_STATEMENTS];
        private final int[] second = new int[MOST_STATEMENTS];
        private final int[] termsFrom = new int[MOST_STATEMENTS];
        private final int[] termsTo = new int[MOST_STATEMENTS];
        private final Terms terms = new Terms();

        private int nodes;
        private final int[] nodeName = new int[MOST_NODES];
        private final int[] nodeFirst = new int[MOST_NODES];
        private int hubNodes;

        private int choices;
        private final int[] choiceLabel = new int[MOST_CHOICES];
        private final int[] choiceNode = new int[MOST_CHOICES];
        private final int[] choiceFirst = new int[MOST_CHOICES];

        private int tests;

        private void empty() {
            size = 0;
            terms.size = 0;
            nodes = 0;
            hubNodes = 0;
            choices = 0;
            tests = 0;
        }

        private int append(int newSort, int newWho, int newDigit) {
            if (size < 0 || size >= MOST_STATEMENTS) {
                return NONE;
            }
            int statement = size;
            sort[statement] = newSort;
            who[statement] = newWho;
            digit[statement] = newDigit;
            next[statement] = NONE;
            first[statement] = NONE;
            second[statement] = NONE;
            termsFrom[statement] = terms.size;
            termsTo[statement] = terms.size;
            size++;
            return statement;
        }

        private boolean has(int statement) {
            return statement >= 0 && statement < size && statement < MOST_STATEMENTS;
        }

        private boolean isOfSort(int statement, int asked) {
            return has(statement) && sort[statement] == asked;
        }

        private boolean standsAsHub(int node) {
            return (hubNodes >> node & 1) == 1;
        }

        private boolean standsInHub(int choice) {
            return choice >= 0 && choice < choices && choice < MOST_CHOICES && standsAsHub(choiceNode[choice]);
        }
    }

    /**
     * Reads a text from left to right, byte after byte: what can stand at a place depends only on
     * what is awaited there and on the blocks that are open.
     */
    private static final class Reader {
        private static final int A_NODE = 0;
        private static final int NODE_NAME = 1;
        private static final int HUB_SIGN = 2;
        private static final int STATEMENT = 3;
        private static final int SECOND_BLOCK = 4;
        private static final int FLAG = 5;
        private static final int METER_SIGN = 6;
        private static final int METER_DIGIT = 7;
        private static final int TERM = 8;
        private static final int TERM_FLAG = 9;
        private static final int TERM_SIGN = 10;
        private static final int TERM_DIGIT = 11;
        private static final int TERM_END = 12;
        private static final int LABEL = 13;
        private static final int LABEL_END = 14;
        private static final int CHOICE_BLOCK = 15;
        private static final int GOAL = 16;
        private static final int ENDING_DIGIT = 17;

        private Story story;
        private int awaited;
        private int depth;
        private int at;
        // How many bytes are read in this step: a number can have two.
        private int width;
        private int digits;
        private int number;
        // The sort and subject of the statement or term whose beginning has been read.
        private int sort;
        private int subject;
        private final int[] nodeNamed = new int[MOST_NODES];
        // For each depth the latest statement in the block that is open there, or NONE.
        private final int[] latest = new int[MOST_DEPTH + 1];
        private final boolean[] isSecond = new boolean[MOST_DEPTH + 1];
        // The test in whose block a statement stands, or NONE.
        private final int[] outerTest = new int[MOST_STATEMENTS];
        private final int[] goalAt = new int[MOST_STATEMENTS];

        private Reader(Story story) {
            this.story = story;
        }

        /** Reads the text into a story; answers the fault, or NONE. */
        private int read(int[] text, int length, Story into) {
            begin(into);
            int end = Math.min(length, text.length);
            for (int turn = 0; turn < MOST_BYTES && at >= 0 && at < end; turn++) {
                width = 1;
                if (text[at] != ' ') {
                    measureNumber(text, end);
                    if (!takes(text[at])) {
                        return at;
                    }
                }
                at += width;
            }
            if (!canEnd()) {
                return length;
            }
            add(NODE_END, story.nodes - 1, 0);
            return linkAll();
        }

        private void begin(Story into) {
            story = into;
            story.empty();
            awaited = A_NODE;
            depth = 0;
            at = 0;
            Arrays.fill(nodeNamed, NONE);
        }

        /** Counts the digits from here on, and takes the first two as a number. */
        private void measureNumber(int[] text, int end) {
            digits = 0;
            number = 0;
            for (int index = Math.max(at, 0); index < end && isDigit(text[index]); index++) {
                digits++;
                if (digits <= 2) {
                    number = 10 * number + text[index] - '0';
                }
            }
        }

        private boolean canEnd() {
            return depth == 1 && (awaited == HUB_SIGN || awaited == STATEMENT || awaited == SECOND_BLOCK);
        }

        /** Takes a byte; answers whether it can stand at its place. */
        private boolean takes(int code) {
            switch (awaited) {
                case A_NODE:
                    return code == '=' && await(NODE_NAME);
                case NODE_NAME:
                    return takesNodeName(code);
                case HUB_SIGN:
                    return code == '#' ? takesHubSign() : takesInBlock(code);
                case STATEMENT:
                    return takesInBlock(code);
                case SECOND_BLOCK:
                    return code == '{' ? opensBlock(true) : takesInBlock(code);
                case FLAG:
                    return isFlag(code) && add(sort, code - 'a', 0);
                case METER_SIGN:
                    return takesMeterSign(code);
                case METER_DIGIT:
                    return isDigit(code) && add(sort, subject, code - '0');
                case LABEL:
                    return takesLabel(code);
                case LABEL_END:
                    return code == '?' ? await(TERM) : code == ']' && await(CHOICE_BLOCK);
                case CHOICE_BLOCK:
                    return code == '{' && opensBlock(false);
                case GOAL:
                    return isName(code) && addGoal(code - 'A');
                case ENDING_DIGIT:
                    return isDigit(code) && add(END, code - '0', 0);
                default:
                    return takesInCondition(code);
            }
        }

        private boolean await(int what) {
            awaited = what;
            return true;
        }

        private boolean takesNodeName(int code) {
            if (!isName(code) || nodeNamed[code - 'A'] != NONE) {
                return false;
            }
            int node = story.nodes;
            if (node < 0 || node >= MOST_NODES) {
                return false;
            }
            nodeNamed[code - 'A'] = node;
            story.nodeName[node] = code;
            story.nodes++;
            depth = 1;
            latest[1] = NONE;
            return await(HUB_SIGN);
        }

        private boolean takesHubSign() {
            story.hubNodes |= 1 << story.nodes - 1;
            return await(STATEMENT);
        }

        /** Takes the first byte of a statement, or the one that ends the block. */
        private boolean takesInBlock(int code) {
            switch (code) {
                case '+':
                    return beginsStatement(RAISE, FLAG);
                case '-':
                    return beginsStatement(LOWER, FLAG);
                case '?':
                    return beginsTest();
                case '[':
                    return beginsChoice();
                case '>':
                    return await(GOAL);
                case '<':
                    return add(RETURN, story.nodes - 1, 0);
                case '.':
                    return await(ENDING_DIGIT);
                case '}':
                    return closesBlock();
                case '=':
                    return depth == 1 && add(NODE_END, story.nodes - 1, 0) && await(NODE_NAME);
                default:
                    return isMeter(code) ? beginsMeter(code) : isDigit(code) && takesLine();
            }
        }

        private boolean beginsStatement(int newSort, int nowAwaited) {
            sort = newSort;
            return await(nowAwaited);
        }

        private boolean beginsMeter(int code) {
            subject = code - 'x';
            return await(METER_SIGN);
        }

        private boolean takesMeterSign(int code) {
            switch (code) {
                case '=':
                    return beginsStatement(SET, METER_DIGIT);
                case '+':
                    return beginsStatement(ADD, METER_DIGIT);
                case '-':
                    return beginsStatement(SUBTRACT, METER_DIGIT);
                default:
                    return false;
            }
        }

        private boolean takesLine() {
            return takesNumber() && add(SAY, number, 0);
        }

        private boolean takesNumber() {
            width = digits;
            return digits == 1 || digits == 2;
        }

        private boolean addGoal(int name) {
            putEntry(goalAt, story.size, at);
            return add(GO, name, 0);
        }

        private boolean beginsTest() {
            if (story.tests >= MOST_TESTS) {
                return false;
            }
            add(TEST, story.tests, 0);
            story.tests++;
            return await(TERM);
        }

        private boolean beginsChoice() {
            int choice = story.choices;
            if (choice < 0 || choice >= MOST_CHOICES) {
                return false;
            }
            add(OFFER, choice, 0);
            story.choiceNode[choice] = story.nodes - 1;
            story.choices++;
            return await(LABEL);
        }

        private boolean takesLabel(int code) {
            if (!isDigit(code) || !takesNumber()) {
                return false;
            }
            putEntry(story.choiceLabel, story.choices - 1, number);
            return await(LABEL_END);
        }

        private boolean takesInCondition(int code) {
            switch (awaited) {
                case TERM:
                    return takesTermBegin(code);
                case TERM_FLAG:
                    return isFlag(code) && addTerm(IS_LOWERED, code - 'a', 0);
                case TERM_SIGN:
                    return takesTermSign(code);
                case TERM_DIGIT:
                    return isDigit(code) && addTerm(sort, subject, code - '0');
                case TERM_END:
                    return takesTermEnd(code);
                default:
                    return false;
            }
        }

        private boolean takesTermBegin(int code) {
            if (code == '!') {
                return await(TERM_FLAG);
            }
            if (isFlag(code)) {
                return addTerm(IS_RAISED, code - 'a', 0);
            }
            subject = code - 'x';
            return isMeter(code) && await(TERM_SIGN);
        }

        private boolean takesTermSign(int code) {
            switch (code) {
                case '<':
                    return beginsStatement(IS_LESS, TERM_DIGIT);
                case '>':
                    return beginsStatement(IS_GREATER, TERM_DIGIT);
                case '=':
                    return beginsStatement(IS_EQUAL, TERM_DIGIT);
                default:
                    return false;
            }
        }

        private boolean takesTermEnd(int code) {
            boolean ofTest = story.isOfSort(entryOf(latest, depth), TEST);
            switch (code) {
                case '&':
                    return await(TERM);
                case '{':
                    return ofTest && opensBlock(false);
                case ']':
                    return !ofTest && await(CHOICE_BLOCK);
                default:
                    return false;
            }
        }

        private boolean addTerm(int newSort, int newSubject, int newDigit) {
            story.terms.append(newSort, newSubject, newDigit);
            putEntry(story.termsTo, entryOf(latest, depth), story.terms.size);
            return await(TERM_END);
        }

        private boolean opensBlock(boolean second) {
            if (depth < 1 || depth >= MOST_DEPTH) {
                return false;
            }
            depth++;
            latest[depth] = NONE;
            isSecond[depth] = second;
            return await(STATEMENT);
        }

        private boolean closesBlock() {
            if (depth <= 1 || depth > MOST_DEPTH) {
                return false;
            }
            int owner = latest[depth - 1];
            if (story.isOfSort(owner, OFFER)) {
                add(CHOICE_END, story.who[owner], 0);
                depth--;
                return await(STATEMENT);
            }
            boolean second = isSecond[depth];
            depth--;
            return await(second ? STATEMENT : SECOND_BLOCK);
        }

        /** Adds a statement at the end of the block that is open. */
        private boolean add(int newSort, int newWho, int newDigit) {
            int statement = story.append(newSort, newWho, newDigit);
            int owner = depth > 1 ? entryOf(latest, depth - 1) : NONE;
            int before = entryOf(latest, depth);
            putEntry(outerTest, statement, story.isOfSort(owner, TEST) ? owner : NONE);
            if (before != NONE) {
                putEntry(story.next, before, statement);
            } else if (owner == NONE) {
                putEntry(story.nodeFirst, story.nodes - 1, statement);
            } else if (isSecond[Math.min(depth, MOST_DEPTH)]) {
                putEntry(story.second, owner, statement);
            } else {
                putEntry(story.first, owner, statement);
            }
            putEntry(latest, depth, statement);
            return await(STATEMENT);
        }

        /** Gives every name its node and every statement the one that follows; answers the fault. */
        private int linkAll() {
            int size = Math.min(story.size, MOST_STATEMENTS);
            for (int statement = 0; statement < size; statement++) {
                if (story.sort[statement] == GO) {
                    int goal = entryOf(nodeNamed, story.who[statement]);
                    if (goal == NONE) {
                        return goalAt[statement];
                    }
                    story.who[statement] = goal;
                }
                linkOne(statement);
            }
            return NONE;
        }

        private void linkOne(int statement) {
            // The test stands before its blocks, so what follows it is known already.
            if (story.next[statement] == NONE) {
                story.next[statement] = entryOf(story.next, outerTest[statement]);
            }
            if (story.sort[statement] == TEST) {
                int next = story.next[statement];
                story.first[statement] = story.first[statement] == NONE ? next : story.first[statement];
                story.second[statement] = story.second[statement] == NONE ? next : story.second[statement];
            }
            if (story.sort[statement] == OFFER) {
                putEntry(story.choiceFirst, story.who[statement], story.first[statement]);
            }
        }

        private static boolean isDigit(int code) {
            return code >= '0' && code <= '9';
        }

        private static boolean isName(int code) {
            return code >= 'A' && code <= 'L';
        }

        private static boolean isFlag(int code) {
            return code >= 'a' && code <= 'f';
        }

        private static boolean isMeter(int code) {
            return code >= 'x' && code <= 'z';
        }
    }

    /** The lines that have been said since the start: how many, the latest ones, and which ever. */
    private static final class Lines {
        private int count;
        private final int[] latest = new int[KEPT_LINES];
        private final boolean[] ever = new boolean[LINES];

        private void empty() {
            count = 0;
            for (int number = 0; number < LINES; number++) {
                ever[number] = false;
            }
        }

        private void append(int number) {
            latest[Math.floorMod(count, KEPT_LINES)] = number;
            count++;
            if (number >= 0 && number < LINES) {
                ever[number] = true;
            }
        }

        private int before(int back) {
            return back < count ? latest[Math.floorMod(count - 1 - back, KEPT_LINES)] : NONE;
        }
    }

    /** A story that is played: its state, and the flows that change it. */
    private static final class Play {
        private Story story;
        private int status;
        private int ending;
        private int node;
        private int hub;
        private int flags;
        private int meters;
        // Only choices that stand in hubs are noted as taken: no others are ever asked for.
        private int taken;
        // A set is enough: no block offers a choice twice or against the order of their numbers.
        private int offered;
        private int entered;
        private final Lines lines = new Lines();

        private Play(Story story) {
            this.story = story;
            node = NONE;
            hub = NONE;
        }

        private void forget(Story newStory) {
            story = newStory;
            status = NOT_STARTED;
            ending = NONE;
            node = NONE;
            hub = NONE;
            flags = 0;
            meters = 0;
            taken = 0;
            offered = 0;
            entered = 0;
            lines.empty();
        }

        private void begin(Story newStory) {
            forget(newStory);
            run(enter(0));
        }

        private void take(int position) {
            int choice = choiceAt(position);
            if (choice < 0 || choice >= MOST_CHOICES) {
                return;
            }
            if (story.standsInHub(choice)) {
                taken |= 1 << choice;
            }
            offered = 0;
            run(story.choiceFirst[choice]);
        }

        private int choiceAt(int position) {
            int rest = position;
            for (int choice = 0; choice < MOST_CHOICES; choice++) {
                if ((offered >> choice & 1) == 1) {
                    if (rest == 0) {
                        return choice;
                    }
                    rest--;
                }
            }
            return NONE;
        }

        /** All that makes up a waiting state, in one number. */
        private long key() {
            long key = offered;
            key = key << 16 | taken;
            key = key << 12 | meters;
            key = key << 6 | flags;
            key = key << 4 | hub + 1;
            return key << 4 | node;
        }

        private void restore(long key) {
            node = (int) (key & 15);
            hub = (int) (key >> 4 & 15) - 1;
            flags = (int) (key >> 8 & 63);
            meters = (int) (key >> 14 & 4095);
            taken = (int) (key >> 26 & 65535);
            offered = (int) (key >> 42 & 65535);
            status = WAITING;
        }

        /** A flow from a statement on. */
        private void run(int from) {
            int at = from;
            int executed = 0;
            // Beside its statements a flow meets the end of a choice's block and that of a node's.
            for (int turn = 0; turn < FLOW_STATEMENTS + 3 && story.has(at); turn++) {
                int sort = story.sort[at];
                if (sort == NODE_END || sort == CHOICE_END) {
                    at = endBlock(sort);
                } else if (executed == FLOW_STATEMENTS) {
                    at = endFlow(LOOP);
                } else {
                    executed++;
                    at = execute(at, sort);
                }
            }
        }

        /** Executes a statement; answers the next one, or NONE if the flow has ended. */
        private int execute(int at, int sort) {
            int who = story.who[at];
            switch (sort) {
                case SAY:
                    lines.append(who);
                    break;
                case RAISE:
                    flags |= 1 << who;
                    break;
                case LOWER:
                    flags &= ~(1 << who);
                    break;
                case SET:
                case ADD:
                case SUBTRACT:
                    changeMeter(sort, who, story.digit[at]);
                    break;
                case TEST:
                    return conditionHolds(at) ? story.first[at] : story.second[at];
                case OFFER:
                    if ((taken >> who & 1) == 0 && conditionHolds(at)) {
                        offered |= 1 << who;
                    }
                    break;
                case GO:
                    return enter(who);
                case RETURN:
                    return hub == NONE ? endFlow(DEAD_END) : enter(hub);
                default:
                    ending = who;
                    return endFlow(ENDED);
            }
            return story.next[at];
        }

        private void changeMeter(int sort, int meter, int digit) {
            int value = changedMeter(sort, meterIn(meters, meter), digit);
            meters = meters & ~(15 << 4 * meter) | value << 4 * meter;
        }

        private boolean conditionHolds(int at) {
            return story.terms.allHold(story.termsFrom[at], story.termsTo[at], flags, meters);
        }

        private int enter(int newNode) {
            offered = 0;
            node = newNode;
            entered |= 1 << newNode;
            if (story.standsAsHub(newNode)) {
                hub = newNode;
            }
            return entryOf(story.nodeFirst, newNode);
        }

        private int endBlock(int sort) {
            if (offered != 0) {
                status = WAITING;
                return NONE;
            }
            return sort == CHOICE_END ? enter(node) : endFlow(DEAD_END);
        }

        private int endFlow(int newStatus) {
            status = newStatus;
            offered = 0;
            return NONE;
        }
    }

    /** The latest states before choices, in a ring. */
    private static final class History {
        private int size;
        // Where the next state is put in the ring.
        private int top;
        private final long[] keys = new long[KEPT_STATES];
        private final int[] counts = new int[KEPT_STATES];
        private final int[] lines = new int[KEPT_STATES * KEPT_LINES];

        private void forget() {
            size = 0;
        }

        private void keep(Play play) {
            int place = Math.floorMod(top, KEPT_STATES);
            keys[place] = play.key();
            counts[place] = play.lines.count;
            System.arraycopy(play.lines.latest, 0, lines, place * KEPT_LINES, KEPT_LINES);
            top = place + 1;
            size = Math.min(size + 1, KEPT_STATES);
        }

        private void restore(Play play) {
            int place = Math.floorMod(top - 1, KEPT_STATES);
            play.restore(keys[place]);
            play.lines.count = counts[place];
            System.arraycopy(lines, place * KEPT_LINES, play.lines.latest, 0, KEPT_LINES);
            top = place;
            size = Math.max(size - 1, 0);
        }
    }

    /** Explores a story with a play of its own; its lines and nodes are those of all flows. */
    private static final class Explorer {
        private final Play play;
        private boolean explored;
        private boolean complete;
        private int limit;
        private int everOffered;

        private int found;
        private final long[] keys = new long[MOST_FOUND];
        // From which state and by which position a state was found, and how long the way to it is.
        private final int[] parent = new int[MOST_FOUND];
        private final int[] position = new int[MOST_FOUND];
        private final int[] wayTo = new int[MOST_FOUND];

        private final int[] endFlows = new int[OUTCOMES];
        private final int[] endParent = new int[OUTCOMES];
        private final int[] endPosition = new int[OUTCOMES];
        private final int[] endLength = new int[OUTCOMES];

        private Explorer(Story story) {
            play = new Play(story);
        }

        private void forget(Story story) {
            play.forget(story);
            explored = false;
            complete = true;
            everOffered = 0;
            found = 0;
            Arrays.fill(endFlows, 0);
            Arrays.fill(endLength, NONE);
        }

        private void search(Story story, int newLimit) {
            forget(story);
            explored = true;
            limit = Math.min(newLimit, MOST_FOUND);
            play.begin(story);
            note(NONE, NONE);
            for (int state = 0; state < MOST_FOUND && state < found; state++) {
                play.restore(keys[state]);
                int many = Integer.bitCount(play.offered);
                for (int taken = 0; taken < many; taken++) {
                    play.restore(keys[state]);
                    play.take(taken);
                    note(state, taken);
                }
            }
        }

        /** Notes how the flow ended that began with this position taken in this state. */
        private void note(int from, int taken) {
            switch (play.status) {
                case WAITING:
                    everOffered |= play.offered;
                    noteWaiting(from, taken);
                    break;
                case ENDED:
                    noteOutcome(play.ending, from, taken);
                    break;
                case DEAD_END:
                    noteOutcome(OUTCOME_DEAD_END, from, taken);
                    break;
                default:
                    noteOutcome(OUTCOME_LOOP, from, taken);
            }
        }

        private void noteWaiting(int from, int taken) {
            long key = play.key();
            if (wasFound(key)) {
                return;
            }
            if (found < 0 || found >= limit) {
                complete = false;
                return;
            }
            keys[found] = key;
            parent[found] = from;
            position[found] = taken;
            wayTo[found] = lengthBehind(from);
            found++;
        }

        private boolean wasFound(long key) {
            for (int state = 0; state < MOST_FOUND && state < found; state++) {
                if (keys[state] == key) {
                    return true;
                }
            }
            return false;
        }

        private void noteOutcome(int outcome, int from, int taken) {
            if (outcome < 0 || outcome >= OUTCOMES) {
                return;
            }
            endFlows[outcome]++;
            if (endLength[outcome] == NONE) {
                endParent[outcome] = from;
                endPosition[outcome] = taken;
                endLength[outcome] = lengthBehind(from);
            }
        }

        /** The length of a way that takes one choice more than the way to this state. */
        private int lengthBehind(int from) {
            return from == NONE ? 0 : entryOf(wayTo, from) + 1;
        }

        /** Goes back from the end of the way. */
        private int positionOnWay(int outcome, int index) {
            int taken = entryOf(endPosition, outcome);
            int state = entryOf(endParent, outcome);
            int steps = entryOf(endLength, outcome) - 1 - index;
            for (int step = 0; step < steps && state != NONE; step++) {
                taken = entryOf(position, state);
                state = entryOf(parent, state);
            }
            return taken;
        }
    }

    /**
     * Knowledge is one number: four bits for each lowest value, four for each greatest value, two
     * for each flag (that it can be 0, that it can be 1), and one for each present hub and for none.
     */
    private static final class Knowledge {
        private static final long NOTHING = 0;
        private static final int ZERO = 1;
        private static final int ONE = 2;
        private static final int BOTH = 3;
        private static final int HIGHS_AT = 12;
        private static final int FLAGS_AT = 24;
        private static final int HUBS_AT = 36;
        private static final int NO_HUB = 1 << 12;
        private static final int ALL_HUBS = (1 << 13) - 1;
        private static final long AT_START = 0x555L << FLAGS_AT | (long) NO_HUB << HUBS_AT;

        private static int low(long knowledge, int meter) {
            return (int) (knowledge >> 4 * meter & 15);
        }

        private static int high(long knowledge, int meter) {
            return (int) (knowledge >> HIGHS_AT + 4 * meter & 15);
        }

        private static int flagSet(long knowledge, int flag) {
            return (int) (knowledge >> FLAGS_AT + 2 * flag & BOTH);
        }

        private static int hubSet(long knowledge) {
            return (int) (knowledge >> HUBS_AT & ALL_HUBS);
        }

        private static long withRange(long knowledge, int meter, int low, int high) {
            if (low > high) {
                return NOTHING;
            }
            int lowAt = 4 * meter;
            int highAt = HIGHS_AT + lowAt;
            long others = knowledge & ~(15L << lowAt | 15L << highAt);
            return others | (long) low << lowAt | (long) high << highAt;
        }

        private static long withFlag(long knowledge, int flag, int set) {
            int at = FLAGS_AT + 2 * flag;
            return knowledge & ~((long) BOTH << at) | (long) set << at;
        }

        /** Narrows the possible values of a flag to those in the set, too. */
        private static long keepingFlag(long knowledge, int flag, int set) {
            int at = FLAGS_AT + 2 * flag;
            long kept = knowledge & ~((long) (BOTH - set) << at);
            return (kept >> at & BOTH) == 0 ? NOTHING : kept;
        }

        private static long withHubs(long knowledge, int set) {
            return knowledge & ~((long) ALL_HUBS << HUBS_AT) | (long) set << HUBS_AT;
        }

        private static long union(long one, long other) {
            if (one == NOTHING || one == other) {
                return other;
            }
            if (other == NOTHING) {
                return one;
            }
            // This joins the sets; the ranges are put in their places after it.
            long union = one | other;
            for (int meter = 0; meter < METERS; meter++) {
                union = withRange(union, meter, Math.min(low(one, meter), low(other, meter)),
                        Math.max(high(one, meter), high(other, meter)));
            }
            return union;
        }
    }

    /**
     * Analyzes a story in sweeps over its statements, in the order of the text: what is known at a
     * statement is poured to the ones that can follow it, which stand further behind, and where
     * two blocks of a test meet, it is joined. Knowledge in entries only grows, so that the order
     * in which entries are gone through is of no matter for the result.
     */
    private static final class Analyzer {
        // All entries together can change some 2,100 times, and each sweep but the last changes one.
        private static final int MOST_SWEEPS = 10000;

        private Story story;
        private boolean settled;
        private boolean changed;
        private final long[] nodeEntry = new long[MOST_NODES];
        private final long[] choiceEntry = new long[MOST_CHOICES];
        private final long[] known = new long[MOST_STATEMENTS];
        private final int[] offered = new int[MOST_STATEMENTS];
        private final int[] certain = new int[MOST_STATEMENTS];
        private final int[] verdicts = new int[MOST_TESTS];
        private int endings;
        private int deadEnds;

        private Analyzer(Story story) {
            this.story = story;
        }

        private void forget(Story newStory) {
            story = newStory;
            settled = false;
            Arrays.fill(nodeEntry, Knowledge.NOTHING);
            Arrays.fill(choiceEntry, Knowledge.NOTHING);
        }

        private void settle(Story newStory) {
            forget(newStory);
            nodeEntry[0] = Knowledge.AT_START;
            changed = true;
            for (int sweep = 0; sweep < MOST_SWEEPS && changed; sweep++) {
                changed = false;
                beginSweep();
                for (int at = 0; at < MOST_STATEMENTS && at < story.size; at++) {
                    if (known[at] != Knowledge.NOTHING) {
                        goThrough(at, known[at], story.who[at]);
                    }
                }
            }
            settled = true;
        }

        private int reachedNodes() {
            int reached = 0;
            for (int node = 0; node < MOST_NODES; node++) {
                if (nodeEntry[node] != Knowledge.NOTHING) {
                    reached++;
                }
            }
            return reached;
        }

        private void beginSweep() {
            endings = 0;
            deadEnds = 0;
            Arrays.fill(verdicts, 0);
            Arrays.fill(known, Knowledge.NOTHING);
            pourEntries();
        }

        private void pourEntries() {
            for (int node = 0; node < MOST_NODES && node < story.nodes; node++) {
                long entry = nodeEntry[node];
                if (entry != Knowledge.NOTHING && story.standsAsHub(node)) {
                    entry = Knowledge.withHubs(entry, 1 << node);
                }
                pour(story.nodeFirst[node], entry, 0, 0);
            }
            for (int choice = 0; choice < MOST_CHOICES && choice < story.choices; choice++) {
                pour(story.choiceFirst[choice], choiceEntry[choice], 0, 0);
            }
        }

        /** Joins knowledge and the two sets of choices to what has come to a statement before. */
        private void pour(int at, long knowledge, int offeredThen, int certainThen) {
            if (knowledge == Knowledge.NOTHING || !story.has(at)) {
                return;
            }
            boolean isFirst = known[at] == Knowledge.NOTHING;
            known[at] = Knowledge.union(known[at], knowledge);
            offered[at] = isFirst ? offeredThen : offered[at] | offeredThen;
            certain[at] = isFirst ? certainThen : certain[at] & certainThen;
        }

        private void goThrough(int at, long knowledge, int who) {
            switch (story.sort[at]) {
                case RAISE:
                    goOn(at, Knowledge.withFlag(knowledge, who, Knowledge.ONE));
                    break;
                case LOWER:
                    goOn(at, Knowledge.withFlag(knowledge, who, Knowledge.ZERO));
                    break;
                case SET:
                case ADD:
                case SUBTRACT:
                    goThroughMeter(at, knowledge, who);
                    break;
                case TEST:
                    goThroughTest(at, knowledge, who);
                    break;
                case OFFER:
                    goThroughChoice(at, knowledge, who);
                    break;
                case GO:
                    joinNode(who, knowledge);
                    break;
                case RETURN:
                    goToHubs(knowledge, who);
                    break;
                case END:
                    endings |= 1 << who;
                    break;
                case NODE_END:
                    endNode(at, knowledge, who);
                    break;
                case CHOICE_END:
                    endChoice(at, knowledge, who);
                    break;
                default:
                    goOn(at, knowledge);
            }
        }

        private void goOn(int at, long knowledge) {
            pour(story.next[at], knowledge, offered[at], certain[at]);
        }

        private void goThroughMeter(int at, long knowledge, int meter) {
            int sort = story.sort[at];
            int low = changedMeter(sort, Knowledge.low(knowledge, meter), story.digit[at]);
            int high = changedMeter(sort, Knowledge.high(knowledge, meter), story.digit[at]);
            goOn(at, Knowledge.withRange(knowledge, meter, low, high));
        }

        private void goThroughTest(int at, long knowledge, int test) {
            long truePart = truePart(at, knowledge);
            long falsePart = falsePart(at, knowledge);
            int verdict = (truePart != Knowledge.NOTHING ? 1 : 0) + (falsePart != Knowledge.NOTHING ? 2 : 0);
            putEntry(verdicts, test, verdict);
            pour(story.first[at], truePart, offered[at], certain[at]);
            pour(story.second[at], falsePart, offered[at], certain[at]);
        }

        private void goThroughChoice(int at, long knowledge, int choice) {
            if (truePart(at, knowledge) != Knowledge.NOTHING) {
                boolean always = story.termsFrom[at] == story.termsTo[at]
                        || falsePart(at, knowledge) == Knowledge.NOTHING;
                offered[at] |= 1 << choice;
                if (always && !story.standsInHub(choice)) {
                    certain[at] |= 1 << choice;
                }
            }
            goOn(at, knowledge);
        }

        private long truePart(int at, long knowledge) {
            return story.terms.truePart(story.termsFrom[at], story.termsTo[at], knowledge);
        }

        private long falsePart(int at, long knowledge) {
            return story.terms.falsePart(story.termsFrom[at], story.termsTo[at], knowledge);
        }

        private void goToHubs(long knowledge, int node) {
            int set = Knowledge.hubSet(knowledge);
            for (int hub = 0; hub < MOST_NODES; hub++) {
                if ((set >> hub & 1) == 1) {
                    joinNode(hub, knowledge);
                }
            }
            if ((set & Knowledge.NO_HUB) != 0) {
                deadEnds |= 1 << node;
            }
        }

        private void endNode(int at, long knowledge, int node) {
            joinChoices(offered[at], knowledge);
            if (certain[at] == 0) {
                deadEnds |= 1 << node;
            }
        }

        private void endChoice(int at, long knowledge, int choice) {
            joinChoices(offered[at], knowledge);
            if (certain[at] == 0) {
                joinNode(entryOf(story.choiceNode, choice), knowledge);
            }
        }

        private void joinNode(int node, long knowledge) {
            if (node < 0 || node >= MOST_NODES) {
                return;
            }
            long joined = Knowledge.union(nodeEntry[node], knowledge);
            changed = changed || joined != nodeEntry[node];
            nodeEntry[node] = joined;
        }

        private void joinChoices(int set, long knowledge) {
            for (int choice = 0; choice < MOST_CHOICES; choice++) {
                if ((set >> choice & 1) == 1) {
                    long joined = Knowledge.union(choiceEntry[choice], knowledge);
                    changed = changed || joined != choiceEntry[choice];
                    choiceEntry[choice] = joined;
                }
            }
        }
    }
}
