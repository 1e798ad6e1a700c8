import java.util.ArrayDeque;
import java.util.ArrayList;
import java.util.Arrays;
import java.util.HashMap;
import java.util.List;
import java.util.Map;
import java.util.Set;
import java.util.TreeSet;

/**
 * A second program for the same document, written as its words go and with no thought for speed or
 * room: a recursive reader, states as objects, and an analysis that goes through nested blocks.
 * AgainstOracleTest compares the answers of both.
 */
final class Oracle {
    static final int NONE = -1;

    // ---- the story as a tree

    static final class Term {
        char subject;
        char sign;
        int digit;
        boolean not;

        boolean isFlag() {
            return subject <= 'f';
        }
    }

    static final class Statement {
        char sort;
        char subject;
        char sign;
        int number;
        int nameAt;
        List<Term> condition;
        List<Statement> first;
        List<Statement> second;
        int id;
        int node;
    }

    static final class Node {
        char name;
        boolean hub;
        List<Statement> block;
    }

    static final class Program {
        final List<Node> nodes = new ArrayList<>();
        final List<Statement> choices = new ArrayList<>();
        final List<Statement> tests = new ArrayList<>();
        final List<Statement> goals = new ArrayList<>();

        int named(char name) {
            for (int i = 0; i < nodes.size(); i++) {
                if (nodes.get(i).name == name) {
                    return i;
                }
            }
            return NONE;
        }

        boolean inHub(Statement choice) {
            return nodes.get(choice.node).hub;
        }
    }

    // ---- reading

    private static final class Fault extends RuntimeException {
        private static final long serialVersionUID = 1L;
        final int index;

        Fault(int index) {
            super(null, null, false, false);
            this.index = index;
        }
    }

    private static final class Parser {
        final String text;
        final Program program = new Program();
        int at = 0;

        Parser(String text) {
            this.text = text;
        }

        /** The next byte that is no blank; 0 at the end of the text stands for none. */
        int peek() {
            while (at < text.length() && text.charAt(at) == ' ') {
                at++;
            }
            return at < text.length() ? text.charAt(at) : -1;
        }

        boolean nextIs(String codes) {
            int code = peek();
            return code >= 0 && codes.indexOf(code) >= 0;
        }

        char need(String codes) {
            if (!nextIs(codes)) {
                throw new Fault(at);
            }
            return text.charAt(at++);
        }

        int digit() {
            return need("0123456789") - '0';
        }

        int number() {
            if (!nextIs("0123456789")) {
                throw new Fault(at);
            }
            int end = at;
            while (end < text.length() && text.charAt(end) >= '0' && text.charAt(end) <= '9') {
                end++;
            }
            if (end - at > 2) {
                throw new Fault(at);
            }
            int value = Integer.parseInt(text.substring(at, end));
            at = end;
            return value;
        }

        Program story() {
            do {
                need("=");
                char name = need("ABCDEFGHIJKL");
                if (program.named(name) != NONE) {
                    throw new Fault(at - 1);
                }
                Node node = new Node();
                node.name = name;
                program.nodes.add(node);
                if (nextIs("#")) {
                    need("#");
                    node.hub = true;
                }
                node.block = block(1);
            } while (peek() != -1);
            for (Statement goal : program.goals) {
                if (program.named(goal.subject) == NONE) {
                    throw new Fault(goal.nameAt);
                }
            }
            return program;
        }

        List<Statement> block(int depth) {
            List<Statement> block = new ArrayList<>();
            while (true) {
                if (depth == 1 && (peek() == -1 || nextIs("="))) {
                    return block;
                }
                if (depth > 1 && nextIs("}")) {
                    return block;
                }
                block.add(statement(depth));
            }
        }

        List<Statement> inner(int depth) {
            need("{");
            if (depth + 1 > 6) {
                throw new Fault(at - 1);
            }
            List<Statement> block = block(depth + 1);
            need("}");
            return block;
        }

        Statement statement(int depth) {
            Statement s = new Statement();
            s.node = program.nodes.size() - 1;
            if (nextIs("0123456789")) {
                s.sort = '0';
                s.number = number();
                return s;
            }
            s.sort = need("+-xyz?[><.");
            switch (s.sort) {
                case '+':
                case '-':
                    s.subject = need("abcdef");
                    break;
                case 'x':
                case 'y':
                case 'z':
                    s.subject = s.sort;
                    s.sort = 'm';
                    s.sign = need("=+-");
                    s.number = digit();
                    break;
                case '?':
                    if (program.tests.size() == 16) {
                        throw new Fault(at - 1);
                    }
                    s.id = program.tests.size();
                    program.tests.add(s);
                    s.condition = condition();
                    s.first = inner(depth);
                    s.second = nextIs("{") ? inner(depth) : new ArrayList<>();
                    break;
                case '[':
                    if (program.choices.size() == 16) {
                        throw new Fault(at - 1);
                    }
                    s.id = program.choices.size();
                    program.choices.add(s);
                    s.number = number();
                    s.condition = new ArrayList<>();
                    if (nextIs("?")) {
                        need("?");
                        s.condition = condition();
                    }
                    need("]");
                    s.first = inner(depth);
                    break;
                case '>':
                    s.subject = need("ABCDEFGHIJKL");
                    s.nameAt = at - 1;
                    program.goals.add(s);
                    break;
                case '.':
                    s.number = digit();
                    break;
                default:
                    break;
            }
            return s;
        }

        List<Term> condition() {
            List<Term> terms = new ArrayList<>();
            do {
                if (!terms.isEmpty()) {
                    need("&");
                }
                terms.add(term());
            } while (nextIs("&"));
            return terms;
        }

        Term term() {
            Term term = new Term();
            if (nextIs("!")) {
                need("!");
                term.not = true;
                term.subject = need("abcdef");
                return term;
            }
            term.subject = need("abcdefxyz");
            if (!term.isFlag()) {
                term.sign = need("<>=");
                term.digit = digit();
            }
            return term;
        }
    }

    // ---- playing

    static final class State {
        int status = 0;
        int ending = NONE;
        int node = NONE;
        int hub = NONE;
        int[] flags = new int[6];
        int[] meters = new int[3];
        TreeSet<Integer> taken = new TreeSet<>();
        List<Integer> offered = new ArrayList<>();
        List<Integer> lines = new ArrayList<>();

        State copy() {
            State c = new State();
            c.status = status;
            c.ending = ending;
            c.node = node;
            c.hub = hub;
            c.flags = flags.clone();
            c.meters = meters.clone();
            c.taken = new TreeSet<>(taken);
            c.offered = new ArrayList<>(offered);
            c.lines = new ArrayList<>(lines);
            return c;
        }
    }

    private static final class Jump extends RuntimeException {
        private static final long serialVersionUID = 1L;
        final int node;

        Jump(int node) {
            super(null, null, false, false);
            this.node = node;
        }
    }

    private static final class Stop extends RuntimeException {
        private static final long serialVersionUID = 1L;
        final int status;

        Stop(int status) {
            super(null, null, false, false);
            this.status = status;
        }
    }

    private static final class Runner {
        final Program program;
        State state = new State();
        int steps;
        final Set<Integer> entered = new TreeSet<>();

        Runner(Program program) {
            this.program = program;
        }

        void start() {
            state = new State();
            steps = 0;
            flow(enter(0), false);
        }

        void choose(int position) {
            Statement choice = program.choices.get(state.offered.get(position));
            state.offered.clear();
            state.taken.add(choice.id);
            steps = 0;
            flow(choice.first, true);
        }

        List<Statement> enter(int node) {
            state.node = node;
            entered.add(node);
            if (program.nodes.get(node).hub) {
                state.hub = node;
            }
            return program.nodes.get(node).block;
        }

        void flow(List<Statement> begin, boolean beginOfChoice) {
            List<Statement> block = begin;
            boolean ofChoice = beginOfChoice;
            while (true) {
                try {
                    execute(block);
                    if (!state.offered.isEmpty()) {
                        state.status = 1;
                        return;
                    }
                    if (!ofChoice) {
                        throw new Stop(3);
                    }
                    block = enter(state.node);
                } catch (Jump jump) {
                    state.offered.clear();
                    block = enter(jump.node);
                } catch (Stop stop) {
                    state.offered.clear();
                    state.status = stop.status;
                    return;
                }
                ofChoice = false;
            }
        }

        void execute(List<Statement> block) {
            for (Statement s : block) {
                if (steps == 150) {
                    throw new Stop(4);
                }
                steps++;
                execute(s);
            }
        }

        void execute(Statement s) {
            switch (s.sort) {
                case '0':
                    state.lines.add(s.number);
                    break;
                case '+':
                    state.flags[s.subject - 'a'] = 1;
                    break;
                case '-':
                    state.flags[s.subject - 'a'] = 0;
                    break;
                case 'm':
                    state.meters[s.subject - 'x'] = moved(s, state.meters[s.subject - 'x']);
                    break;
                case '?':
                    execute(holds(s.condition) ? s.first : s.second);
                    break;
                case '[':
                    if (holds(s.condition) && !(program.inHub(s) && state.taken.contains(s.id))) {
                        state.offered.add(s.id);
                    }
                    break;
                case '>':
                    throw new Jump(program.named(s.subject));
                case '<':
                    if (state.hub == NONE) {
                        throw new Stop(3);
                    }
                    throw new Jump(state.hub);
                default:
                    state.ending = s.number;
                    throw new Stop(2);
            }
        }

        boolean holds(List<Term> condition) {
            for (Term t : condition) {
                boolean holds;
                if (t.isFlag()) {
                    holds = state.flags[t.subject - 'a'] == (t.not ? 0 : 1);
                } else {
                    int value = state.meters[t.subject - 'x'];
                    holds = t.sign == '<' ? value < t.digit : t.sign == '>' ? value > t.digit : value == t.digit;
                }
                if (!holds) {
                    return false;
                }
            }
            return true;
        }
    }

    static int moved(Statement s, int value) {
        return s.sign == '=' ? s.number : s.sign == '+' ? Math.min(9, value + s.number) : Math.max(0, value - s.number);
    }

    // ---- exploring

    private static final class Exploration {
        final List<State> states = new ArrayList<>();
        final List<List<Integer>> ways = new ArrayList<>();
        final Map<Integer, List<Integer>> outcomeWays = new HashMap<>();
        final int[] flows = new int[12];
        final Set<Integer> lines = new TreeSet<>();
        final Set<Integer> offered = new TreeSet<>();
        final Runner runner;
        boolean complete = true;

        Exploration(Program program, int limit) {
            runner = new Runner(program);
            runner.start();
            note(new ArrayList<>(), limit);
            for (int i = 0; i < states.size(); i++) {
                for (int p = 0; p < states.get(i).offered.size(); p++) {
                    runner.state = states.get(i).copy();
                    runner.choose(p);
                    List<Integer> way = new ArrayList<>(ways.get(i));
                    way.add(p);
                    note(way, limit);
                }
            }
        }

        boolean equal(State a, State b) {
            return a.node == b.node && a.hub == b.hub && Arrays.equals(a.flags, b.flags)
                    && Arrays.equals(a.meters, b.meters) && a.offered.equals(b.offered)
                    && hubTaken(a).equals(hubTaken(b));
        }

        Set<Integer> hubTaken(State s) {
            Set<Integer> set = new TreeSet<>();
            for (int choice : s.taken) {
                if (runner.program.inHub(runner.program.choices.get(choice))) {
                    set.add(choice);
                }
            }
            return set;
        }

        void note(List<Integer> way, int limit) {
            State now = runner.state.copy();
            lines.addAll(now.lines);
            now.lines.clear();
            if (now.status != 1) {
                int outcome = now.status == 2 ? now.ending : now.status == 3 ? 10 : 11;
                flows[outcome]++;
                outcomeWays.putIfAbsent(outcome, way);
                return;
            }
            offered.addAll(now.offered);
            for (State s : states) {
                if (equal(s, now)) {
                    return;
                }
            }
            if (states.size() == limit) {
                complete = false;
                return;
            }
            states.add(now);
            ways.add(way);
        }
    }

    // ---- analyzing

    private static final class Know {
        int[] low = new int[3];
        int[] high = new int[3];
        List<Set<Integer>> flags = new ArrayList<>();
        Set<Integer> hubs = new TreeSet<>();

        Know copy() {
            Know c = new Know();
            c.low = low.clone();
            c.high = high.clone();
            for (Set<Integer> set : flags) {
                c.flags.add(new TreeSet<>(set));
            }
            c.hubs.addAll(hubs);
            return c;
        }

        static Know first() {
            Know k = new Know();
            for (int i = 0; i < 6; i++) {
                k.flags.add(new TreeSet<>(List.of(0)));
            }
            k.hubs.add(12);
            return k;
        }

        boolean isNothing() {
            for (int m = 0; m < 3; m++) {
                if (low[m] > high[m]) {
                    return true;
                }
            }
            for (Set<Integer> set : flags) {
                if (set.isEmpty()) {
                    return true;
                }
            }
            return false;
        }

        boolean equal(Know other) {
            return Arrays.equals(low, other.low) && Arrays.equals(high, other.high)
                    && flags.equals(other.flags) && hubs.equals(other.hubs);
        }
    }

    private static Know union(Know a, Know b) {
        if (a == null || b == null) {
            return a == null ? b : a;
        }
        Know u = a.copy();
        for (int m = 0; m < 3; m++) {
            u.low[m] = Math.min(a.low[m], b.low[m]);
            u.high[m] = Math.max(a.high[m], b.high[m]);
        }
        for (int f = 0; f < 6; f++) {
            u.flags.get(f).addAll(b.flags.get(f));
        }
        u.hubs.addAll(b.hubs);
        return u;
    }

    private static final class Analysis {
        final Program program;
        final Know[] nodeEntry;
        final Know[] choiceEntry;
        final int[] verdicts;
        final Set<Integer> endings = new TreeSet<>();
        final Set<Integer> deadEnds = new TreeSet<>();
        boolean changed;
        // What goes along while a block is gone through.
        Know now;
        Set<Integer> offered;
        Set<Integer> certain;

        Analysis(Program program) {
            this.program = program;
            nodeEntry = new Know[program.nodes.size()];
            choiceEntry = new Know[program.choices.size()];
            verdicts = new int[program.tests.size()];
            nodeEntry[0] = Know.first();
            do {
                changed = false;
                Arrays.fill(verdicts, 0);
                endings.clear();
                deadEnds.clear();
                // Against the order of the text: the result must not depend on it.
                for (int c = choiceEntry.length - 1; c >= 0; c--) {
                    fromChoice(c);
                }
                for (int n = nodeEntry.length - 1; n >= 0; n--) {
                    fromNode(n);
                }
            } while (changed);
        }

        void begin(Know entry) {
            now = entry.copy();
            offered = new TreeSet<>();
            certain = new TreeSet<>();
        }

        void fromNode(int n) {
            if (nodeEntry[n] == null) {
                return;
            }
            begin(nodeEntry[n]);
            if (program.nodes.get(n).hub) {
                now.hubs = new TreeSet<>(List.of(n));
            }
            go(program.nodes.get(n).block);
            if (now != null) {
                joinOffered();
                if (certain.isEmpty()) {
                    deadEnds.add(n);
                }
            }
        }

        void fromChoice(int c) {
            if (choiceEntry[c] == null) {
                return;
            }
            begin(choiceEntry[c]);
            go(program.choices.get(c).first);
            if (now != null) {
                joinOffered();
                if (certain.isEmpty()) {
                    join(nodeEntry, program.choices.get(c).node);
                }
            }
        }

        void joinOffered() {
            for (int c : offered) {
                join(choiceEntry, c);
            }
        }

        void join(Know[] row, int i) {
            Know u = union(row[i], now).copy();
            if (row[i] == null || !row[i].equal(u)) {
                changed = true;
                row[i] = u;
            }
        }

        void go(List<Statement> block) {
            for (Statement s : block) {
                if (now == null) {
                    return;
                }
                go(s);
            }
        }

        void go(Statement s) {
            switch (s.sort) {
                case '0':
                    break;
                case '+':
                    now.flags.set(s.subject - 'a', new TreeSet<>(List.of(1)));
                    break;
                case '-':
                    now.flags.set(s.subject - 'a', new TreeSet<>(List.of(0)));
                    break;
                case 'm':
                    int m = s.subject - 'x';
                    now.low[m] = moved(s, now.low[m]);
                    now.high[m] = moved(s, now.high[m]);
                    break;
                case '?':
                    goTest(s);
                    break;
                case '[':
                    if (truePart(s.condition) != null) {
                        offered.add(s.id);
                        if (!program.inHub(s) && (s.condition.isEmpty() || falsePart(s.condition) == null)) {
                            certain.add(s.id);
                        }
                    }
                    break;
                case '>':
                    join(nodeEntry, program.named(s.subject));
                    now = null;
                    break;
                case '<':
                    for (int h : now.hubs) {
                        if (h < 12) {
                            join(nodeEntry, h);
                        } else {
                            deadEnds.add(s.node);
                        }
                    }
                    now = null;
                    break;
                default:
                    endings.add(s.number);
                    now = null;
            }
        }

        void goTest(Statement s) {
            Know yes = truePart(s.condition);
            Know no = falsePart(s.condition);
            verdicts[s.id] = (yes == null ? 0 : 1) + (no == null ? 0 : 2);
            Set<Integer> offeredBefore = new TreeSet<>(offered);
            Set<Integer> certainBefore = new TreeSet<>(certain);
            now = yes;
            go(s.first);
            Know afterFirst = now;
            Set<Integer> offeredFirst = offered;
            Set<Integer> certainFirst = certain;
            now = no;
            offered = offeredBefore;
            certain = certainBefore;
            go(s.second);
            if (now == null) {
                now = afterFirst;
                offered = offeredFirst;
                certain = certainFirst;
            } else if (afterFirst != null) {
                now = union(afterFirst, now);
                offered.addAll(offeredFirst);
                certain.retainAll(certainFirst);
            }
        }

        Know truePart(List<Term> condition) {
            Know k = now.copy();
            for (Term t : condition) {
                if (t.isFlag()) {
                    k.flags.get(t.subject - 'a').remove(t.not ? 1 : 0);
                    continue;
                }
                int m = t.subject - 'x';
                if (t.sign == '<' || t.sign == '=') {
                    k.high[m] = Math.min(k.high[m], t.sign == '<' ? t.digit - 1 : t.digit);
                }
                if (t.sign == '>' || t.sign == '=') {
                    k.low[m] = Math.max(k.low[m], t.sign == '>' ? t.digit + 1 : t.digit);
                }
            }
            return k.isNothing() ? null : k;
        }

        Know falsePart(List<Term> condition) {
            Know k = now.copy();
            if (condition.size() != 1) {
                return k;
            }
            Term t = condition.get(0);
            if (t.isFlag()) {
                k.flags.get(t.subject - 'a').remove(t.not ? 0 : 1);
                return k.isNothing() ? null : k;
            }
            int m = t.subject - 'x';
            if (t.sign == '<') {
                k.low[m] = Math.max(k.low[m], t.digit);
            } else if (t.sign == '>') {
                k.high[m] = Math.min(k.high[m], t.digit);
            } else {
                if (k.low[m] == t.digit) {
                    k.low[m]++;
                }
                if (k.high[m] == t.digit) {
                    k.high[m]--;
                }
            }
            return k.isNothing() ? null : k;
        }
    }

    // ---- the face

    private final StringBuilder text = new StringBuilder();
    private Program program;
    private Runner runner;
    private final ArrayDeque<State> history = new ArrayDeque<>();
    private Exploration exploration;
    private Analysis analysis;

    private static void argument(boolean fine) {
        if (!fine) {
            throw new IllegalArgumentException();
        }
    }

    private static void state(boolean fine) {
        if (!fine) {
            throw new IllegalStateException();
        }
    }

    private static void index(int i, int size) {
        if (i < 0 || i >= size) {
            throw new IndexOutOfBoundsException();
        }
    }

    private int nodes() {
        return program == null ? 0 : program.nodes.size();
    }

    private int choices() {
        return program == null ? 0 : program.choices.size();
    }

    private State now() {
        return runner == null ? new State() : runner.state;
    }

    int type(int code) {
        argument(code >= 0 && code <= 255);
        state(text.length() < 400);
        text.append((char) code);
        return text.length();
    }

    int clearText() {
        int length = text.length();
        text.setLength(0);
        return length;
    }

    int fault() {
        try {
            new Parser(text.toString()).story();
            return NONE;
        } catch (Fault fault) {
            return fault.index;
        }
    }

    int build() {
        state(fault() == NONE);
        program = new Parser(text.toString()).story();
        runner = null;
        history.clear();
        exploration = null;
        analysis = null;
        return nodes();
    }

    int count(int what) {
        argument(what >= 0 && what <= 2);
        return program == null ? 0 : what == 0 ? nodes() : what == 1 ? choices() : program.tests.size();
    }

    int name(int node) {
        index(node, nodes());
        return program.nodes.get(node).name;
    }

    boolean isHub(int node) {
        index(node, nodes());
        return program.nodes.get(node).hub;
    }

    int label(int choice) {
        index(choice, choices());
        return program.choices.get(choice).number;
    }

    int nodeOf(int choice) {
        index(choice, choices());
        return program.choices.get(choice).node;
    }

    int start() {
        state(program != null);
        history.clear();
        runner = new Runner(program);
        runner.start();
        return status();
    }

    int choose(int position) {
        state(status() == 1);
        index(position, offered());
        history.addLast(runner.state.copy());
        if (history.size() > 12) {
            history.removeFirst();
        }
        runner.choose(position);
        return status();
    }

    int back() {
        state(!history.isEmpty());
        runner.state = history.removeLast();
        return history.size();
    }

    int status() {
        return now().status;
    }

    int ending() {
        return status() == 2 ? now().ending : NONE;
    }

    int node() {
        return now().node;
    }

    int hub() {
        return now().hub;
    }

    int offered() {
        return now().offered.size();
    }

    int choice(int position) {
        index(position, offered());
        return now().offered.get(position);
    }

    int flag(int flag) {
        argument(flag >= 0 && flag <= 5);
        return now().flags[flag];
    }

    int meter(int meter) {
        argument(meter >= 0 && meter <= 2);
        return now().meters[meter];
    }

    int said() {
        return now().lines.size();
    }

    int line(int back) {
        argument(back >= 0 && back <= 19);
        int i = said() - 1 - back;
        return i < 0 ? NONE : now().lines.get(i);
    }

    int explore(int limit) {
        argument(limit >= 1 && limit <= 300);
        state(program != null);
        exploration = new Exploration(program, limit);
        return exploration.states.size();
    }

    boolean isComplete() {
        state(exploration != null);
        return exploration.complete;
    }

    int wayLength(int outcome) {
        argument(outcome >= 0 && outcome <= 11);
        state(exploration != null);
        List<Integer> way = exploration.outcomeWays.get(outcome);
        return way == null ? NONE : way.size();
    }

    int way(int outcome, int index) {
        int length = wayLength(outcome);
        index(index, length);
        return exploration.outcomeWays.get(outcome).get(index);
    }

    int outcomes(int outcome) {
        argument(outcome >= 0 && outcome <= 11);
        state(exploration != null);
        return exploration.flows[outcome];
    }

    boolean occurred(int what, int number) {
        argument(what >= 0 && what <= 2);
        state(exploration != null);
        index(number, what == 0 ? 100 : what == 1 ? nodes() : choices());
        return (what == 0 ? exploration.lines : what == 1 ? exploration.runner.entered : exploration.offered)
                .contains(number);
    }

    int analyze() {
        state(program != null);
        analysis = new Analysis(program);
        int reached = 0;
        for (Know entry : analysis.nodeEntry) {
            reached += entry == null ? 0 : 1;
        }
        return reached;
    }

    boolean isReached(int what, int number) {
        argument(what >= 0 && what <= 1);
        state(analysis != null);
        index(number, what == 0 ? nodes() : choices());
        return (what == 0 ? analysis.nodeEntry : analysis.choiceEntry)[number] != null;
    }

    private Know entry(int node) {
        state(analysis != null);
        index(node, nodes());
        return analysis.nodeEntry[node];
    }

    int lowest(int node, int meter) {
        argument(meter >= 0 && meter <= 2);
        Know entry = entry(node);
        return entry == null ? NONE : entry.low[meter];
    }

    int greatest(int node, int meter) {
        argument(meter >= 0 && meter <= 2);
        Know entry = entry(node);
        return entry == null ? NONE : entry.high[meter];
    }

    int values(int node, int flag) {
        argument(flag >= 0 && flag <= 5);
        Know entry = entry(node);
        return entry == null ? 0 : sum(entry.flags.get(flag));
    }

    int hubs(int node) {
        Know entry = entry(node);
        return entry == null ? 0 : sum(entry.hubs);
    }

    int verdict(int test) {
        state(analysis != null);
        index(test, program.tests.size());
        return analysis.verdicts[test];
    }

    int possible(int what) {
        argument(what >= 0 && what <= 1);
        state(analysis != null);
        return sum(what == 0 ? analysis.endings : analysis.deadEnds);
    }

    private static int sum(Set<Integer> exponents) {
        int sum = 0;
        for (int e : exponents) {
            sum += 1 << e;
        }
        return sum;
    }
}
