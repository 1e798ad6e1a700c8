import java.util.Random;
import java.util.concurrent.Callable;

/** Compares the class with the oracle, over many stories and runs of calls made from fixed seeds. */
public final class AgainstOracleTest {
    private static final int RUNS = 6000;
    private static final int FAULT_TEXTS = 40000;

    public static void main(String[] args) {
        for (int seed = 0; seed < FAULT_TEXTS; seed++) {
            compareFault(new Random(seed), seed);
        }
        for (int seed = 0; seed < RUNS; seed++) {
            new Run(seed).go();
        }
        Check.end();
    }

    /** A text that is nearly a story: a story with a few bytes changed, or cut off. */
    private static void compareFault(Random random, int seed) {
        String text = spoilt(random, StoryMaker.make(random));
        BranchingStory story = Check.typed(text);
        Oracle oracle = new Oracle();
        for (int i = 0; i < text.length(); i++) {
            oracle.type(text.charAt(i));
        }
        Check.same("text " + seed + " " + text + ": fault()", Check.answer(story::fault), Check.answer(oracle::fault));
        Check.same("text " + seed + " " + text + ": build()", Check.answer(story::build), Check.answer(oracle::build));
    }

    private static String spoilt(Random random, String story) {
        StringBuilder text = new StringBuilder(story);
        String codes = "=AL#MabfgxyzwX?![]{}<>.&+-0123456789 " + (char) 0 + (char) 255 + "\n";
        int spoils = random.nextInt(4);
        for (int i = 0; i < spoils && text.length() > 0; i++) {
            int at = random.nextInt(text.length());
            char code = codes.charAt(random.nextInt(codes.length()));
            switch (random.nextInt(4)) {
                case 0:
                    text.setCharAt(at, code);
                    break;
                case 1:
                    text.insert(at, code);
                    break;
                case 2:
                    text.deleteCharAt(at);
                    break;
                default:
                    text.setLength(random.nextInt(3) == 0 ? at : text.length());
            }
        }
        return text.length() > 400 ? text.substring(0, 400) : text.toString();
    }

    /** One object of each, and the same calls on both. */
    private static final class Run {
        private final int seed;
        private final Random random;
        private final BranchingStory story = new BranchingStory();
        private final Oracle oracle = new Oracle();
        private final StringBuilder typed = new StringBuilder();
        private int calls = 0;

        Run(int seed) {
            this.seed = seed;
            this.random = new Random(1000003L * seed + 17);
        }

        void go() {
            int stories = 1 + random.nextInt(3);
            for (int i = 0; i < stories && calls < 400; i++) {
                if (random.nextInt(10) == 0) {
                    anyCalls(random.nextInt(10));
                }
                both("clearText()", story::clearText, oracle::clearText);
                String text = StoryMaker.make(random);
                if (text.length() + calls > 420) {
                    continue;
                }
                typed.setLength(0);
                typed.append(text);
                for (int c = 0; c < text.length(); c++) {
                    int code = text.charAt(c);
                    both("type", () -> story.type(code), () -> oracle.type(code));
                }
                both("build()", story::build, oracle::build);
                anyCalls(i == stories - 1 ? 512 - calls : random.nextInt(60));
            }
        }

        void anyCalls(int many) {
            for (int i = 0; i < many && calls < 512; i++) {
                anyCall();
            }
        }

        void both(String call, Callable<?> one, Callable<?> other) {
            calls++;
            Check.same("run " + seed + ", call " + calls + ", " + typed + ": " + call,
                    Check.answer(one), Check.answer(other));
        }

        /** Mostly within the range, now and then just outside of it or far away. */
        int number(int size) {
            int kind = random.nextInt(30);
            if (kind == 0) {
                return random.nextBoolean() ? -1 : size;
            }
            if (kind == 1) {
                return random.nextBoolean() ? Integer.MIN_VALUE : Integer.MAX_VALUE;
            }
            return size <= 0 ? 0 : random.nextInt(size);
        }

        void anyCall() {
            int kind = random.nextInt(100);
            if (kind < 30) {
                playCall();
            } else if (kind < 55) {
                stateCall(random.nextInt(13));
            } else if (kind < 75) {
                exploreCall(random.nextInt(8));
            } else if (kind < 95) {
                analyzeCall(random.nextInt(8));
            } else {
                storyCall(random.nextInt(7));
            }
        }

        void playCall() {
            int kind = random.nextInt(10);
            int status = oracle.status();
            if (kind == 0 || status == 0 && kind < 7) {
                both("start()", story::start, oracle::start);
            } else if (kind < 4 || status > 1 && kind < 8) {
                both("back()", story::back, oracle::back);
            } else {
                int p = number(oracle.offered());
                both("choose(" + p + ")", () -> story.choose(p), () -> oracle.choose(p));
            }
        }

        void stateCall(int kind) {
            int a = number(kind == 0 ? 6 : kind == 1 ? 3 : kind == 2 ? 20 : oracle.offered());
            switch (kind) {
                case 0:
                    both("flag(" + a + ")", () -> story.flag(a), () -> oracle.flag(a));
                    break;
                case 1:
                    both("meter(" + a + ")", () -> story.meter(a), () -> oracle.meter(a));
                    break;
                case 2:
                case 3:
                    both("line(" + a + ")", () -> story.line(a), () -> oracle.line(a));
                    break;
                case 4:
                case 5:
                    both("choice(" + a + ")", () -> story.choice(a), () -> oracle.choice(a));
                    break;
                case 6:
                    both("status()", story::status, oracle::status);
                    break;
                case 7:
                    both("ending()", story::ending, oracle::ending);
                    break;
                case 8:
                    both("node()", story::node, oracle::node);
                    break;
                case 9:
                    both("hub()", story::hub, oracle::hub);
                    break;
                case 10:
                    both("offered()", story::offered, oracle::offered);
                    break;
                case 11:
                    both("fault()", story::fault, oracle::fault);
                    break;
                default:
                    both("said()", story::said, oracle::said);
            }
        }

        void exploreCall(int kind) {
            int outcome = number(12);
            switch (kind) {
                case 0:
                    int limit = 1 + number(random.nextBoolean() ? 300 : 12);
                    both("explore(" + limit + ")", () -> story.explore(limit), () -> oracle.explore(limit));
                    break;
                case 1:
                    both("isComplete()", story::isComplete, oracle::isComplete);
                    break;
                case 2:
                    both("wayLength(" + outcome + ")", () -> story.wayLength(outcome), () -> oracle.wayLength(outcome));
                    break;
                case 3:
                    wayCall(outcome);
                    break;
                case 4:
                    both("outcomes(" + outcome + ")", () -> story.outcomes(outcome), () -> oracle.outcomes(outcome));
                    break;
                default:
                    int what = number(3);
                    int n = number(what == 0 ? 100 : oracle.count(what == 1 ? 0 : 1));
                    both("occurred(" + what + ", " + n + ")", () -> story.occurred(what, n), () -> oracle.occurred(what, n));
            }
        }

        /** A whole way, as far as the calls go. */
        void wayCall(int outcome) {
            String length = Check.answer(() -> oracle.wayLength(outcome));
            int many = length.startsWith("throws") ? 1 : Math.max(Integer.parseInt(length), 0) + 1;
            for (int i = 0; i < many && calls < 512; i++) {
                int index = random.nextInt(40) == 0 ? number(many) : i;
                both("way(" + outcome + ", " + index + ")", () -> story.way(outcome, index), () -> oracle.way(outcome, index));
            }
        }

        void analyzeCall(int kind) {
            int node = number(oracle.count(0));
            int meter = number(3);
            switch (kind) {
                case 0:
                    both("analyze()", story::analyze, oracle::analyze);
                    break;
                case 1:
                    int what = number(2);
                    int n = number(oracle.count(what == 0 ? 0 : 1));
                    both("isReached(" + what + ", " + n + ")", () -> story.isReached(what, n), () -> oracle.isReached(what, n));
                    break;
                case 2:
                    both("lowest(" + node + ", " + meter + ")", () -> story.lowest(node, meter), () -> oracle.lowest(node, meter));
                    break;
                case 3:
                    both("greatest(" + node + ", " + meter + ")", () -> story.greatest(node, meter), () -> oracle.greatest(node, meter));
                    break;
                case 4:
                    int flag = number(6);
                    both("values(" + node + ", " + flag + ")", () -> story.values(node, flag), () -> oracle.values(node, flag));
                    break;
                case 5:
                    both("hubs(" + node + ")", () -> story.hubs(node), () -> oracle.hubs(node));
                    break;
                case 6:
                    int test = number(oracle.count(2));
                    both("verdict(" + test + ")", () -> story.verdict(test), () -> oracle.verdict(test));
                    break;
                default:
                    int of = number(2);
                    both("possible(" + of + ")", () -> story.possible(of), () -> oracle.possible(of));
            }
        }

        void storyCall(int kind) {
            int a = number(kind == 0 ? 3 : oracle.count(kind <= 2 ? 0 : 1));
            switch (kind) {
                case 0:
                    both("count(" + a + ")", () -> story.count(a), () -> oracle.count(a));
                    break;
                case 1:
                    both("name(" + a + ")", () -> story.name(a), () -> oracle.name(a));
                    break;
                case 2:
                    both("isHub(" + a + ")", () -> story.isHub(a), () -> oracle.isHub(a));
                    break;
                case 3:
                    both("label(" + a + ")", () -> story.label(a), () -> oracle.label(a));
                    break;
                case 4:
                    both("nodeOf(" + a + ")", () -> story.nodeOf(a), () -> oracle.nodeOf(a));
                    break;
                case 5:
                    int code = number(256);
                    both("type(" + code + ")", () -> story.type(code), () -> oracle.type(code));
                    break;
                default:
                    if (random.nextInt(4) == 0) {
                        both("build()", story::build, oracle::build);
                    }
            }
        }
    }
}
