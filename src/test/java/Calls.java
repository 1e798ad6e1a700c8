import java.lang.reflect.InvocationTargetException;
import java.lang.reflect.Method;
import java.util.HashMap;
import java.util.Map;

/**
 * An object whose calls are written as in the document ("choose 0"), and counted: the document
 * promises nothing beyond the 512th. Two objects that are made by the same calls are twins: what
 * a refused call has changed shows when one of them has got it and all answers of both are compared.
 */
final class Calls {
    private static final int MOST = 512;
    // Beyond this many calls there is no room left for asking for everything.
    private static final int MANY = 200;
    private static final Map<String, Method> METHODS = new HashMap<>();

    static {
        for (Method method : BranchingStory.class.getMethods()) {
            if (method.getDeclaringClass() == BranchingStory.class) {
                METHODS.put(method.getName(), method);
            }
        }
    }

    private final BranchingStory story = new BranchingStory();
    private int made = 0;

    /** A text to type, or the empty one, and the calls behind it; "text ..." types another one. */
    static Calls make(String text, String... calls) {
        Calls object = new Calls();
        object.type(text);
        for (String call : calls) {
            if (call.startsWith("text ")) {
                object.call("clearText");
                object.type(call.substring(5));
            } else {
                String answer = object.written(call);
                Check.isFalse("refused: " + call + " behind " + text, () -> answer.startsWith("throws"));
            }
        }
        return object;
    }

    private void type(String text) {
        for (int i = 0; i < text.length(); i++) {
            call("type", text.charAt(i));
        }
    }

    String written(String call) {
        String[] words = call.split(" ");
        int[] numbers = new int[words.length - 1];
        for (int i = 0; i < numbers.length; i++) {
            numbers[i] = Integer.parseInt(words[i + 1]);
        }
        return call(words[0], numbers);
    }

    /** The answer: a number, or throws. and the name of the exception. */
    String call(String name, int... numbers) {
        made++;
        if (made > MOST) {
            Check.same("a test's calls", "more than " + MOST, "at most " + MOST);
        }
        Object[] arguments = new Object[numbers.length];
        for (int i = 0; i < numbers.length; i++) {
            arguments[i] = numbers[i];
        }
        try {
            Object answer = METHODS.get(name).invoke(story, arguments);
            return answer instanceof Boolean ? (Boolean) answer ? "1" : "0" : answer.toString();
        } catch (InvocationTargetException e) {
            return "throws." + e.getCause().getClass().getSimpleName();
        } catch (IllegalAccessException e) {
            throw new IllegalStateException(e);
        }
    }

    private int number(String name, int... numbers) {
        String answer = call(name, numbers);
        return answer.startsWith("throws") ? 0 : Integer.parseInt(answer);
    }

    /** All that can be asked of the object. What changes it comes last: it cannot be used behind this. */
    String all() {
        StringBuilder all = new StringBuilder();
        if (made <= MANY) {
            playing(all);
            theStory(all);
            exploring(all);
            analyzing(all);
        }
        takingBack(all);
        theText(all);
        return all.toString();
    }

    private String ask(StringBuilder all, String name, int... numbers) {
        String answer = call(name, numbers);
        all.append(name);
        for (int number : numbers) {
            all.append(' ').append(number);
        }
        all.append('=').append(answer).append("; ");
        return answer;
    }

    /** Asks with each number below a bound. */
    private void each(StringBuilder all, String name, int below) {
        for (int i = 0; i < below; i++) {
            ask(all, name, i);
        }
    }

    private void playing(StringBuilder all) {
        for (String name : new String[] {"status", "ending", "node", "hub", "offered", "said"}) {
            ask(all, name);
        }
        each(all, "choice", number("offered"));
        each(all, "flag", 6);
        each(all, "meter", 3);
        each(all, "line", 20);
    }

    private void theStory(StringBuilder all) {
        each(all, "count", 3);
        each(all, "name", number("count", 0));
        each(all, "isHub", number("count", 0));
        each(all, "label", number("count", 1));
        each(all, "nodeOf", number("count", 1));
    }

    private void exploring(StringBuilder all) {
        if (ask(all, "isComplete").startsWith("throws")) {
            return;
        }
        each(all, "outcomes", 12);
        for (int outcome = 0; outcome < 12; outcome++) {
            int length = number("wayLength", outcome);
            for (int index = 0; index < length; index++) {
                ask(all, "way", outcome, index);
            }
        }
        for (int line = 0; line < 10; line++) {
            ask(all, "occurred", 0, line);
        }
        for (int node = 0; node < number("count", 0); node++) {
            ask(all, "occurred", 1, node);
        }
        for (int choice = 0; choice < number("count", 1); choice++) {
            ask(all, "occurred", 2, choice);
        }
    }

    private void analyzing(StringBuilder all) {
        if (ask(all, "possible", 0).startsWith("throws")) {
            return;
        }
        ask(all, "possible", 1);
        for (int choice = 0; choice < number("count", 1); choice++) {
            ask(all, "isReached", 1, choice);
        }
        for (int node = 0; node < number("count", 0); node++) {
            ask(all, "isReached", 0, node);
            ask(all, "hubs", node);
            ask(all, "values", node, 0);
            for (int meter = 0; meter < 3; meter++) {
                ask(all, "lowest", node, meter);
                ask(all, "greatest", node, meter);
            }
        }
        each(all, "verdict", number("count", 2));
    }

    private void takingBack(StringBuilder all) {
        for (int turn = 0; turn <= 12 && !ask(all, "back").startsWith("throws"); turn++) {
            for (String name : new String[] {"status", "node", "hub", "offered", "said"}) {
                ask(all, name);
            }
            ask(all, "line", 0);
            ask(all, "meter", 0);
        }
    }

    /** The bytes of the text show in the story that is made of it. */
    private void theText(StringBuilder all) {
        ask(all, "fault");
        if (!ask(all, "build").startsWith("throws")) {
            each(all, "count", 3);
            ask(all, "name", 0);
            ask(all, "start");
            ask(all, "said");
            ask(all, "line", 0);
            ask(all, "offered");
        }
        ask(all, "clearText");
        ask(all, "fault");
    }

    /** A call that is refused behind these calls: the exception is this one, and nothing changes. */
    static void refused(String exception, String call, String text, String... calls) {
        Calls one = make(text, calls);
        String where = call + " behind " + text + " " + String.join(" ", calls);
        Check.same(where, one.written(call), "throws." + exception);
        Check.same("all answers behind the refused " + where, one.all(), make(text, calls).all());
    }

    static void refusedArgument(String call, String text, String... calls) {
        refused("IllegalArgumentException", call, text, calls);
    }

    static void refusedState(String call, String text, String... calls) {
        refused("IllegalStateException", call, text, calls);
    }

    static void refusedIndex(String call, String text, String... calls) {
        refused("IndexOutOfBoundsException", call, text, calls);
    }
}
