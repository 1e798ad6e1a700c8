import java.util.concurrent.Callable;

/** What the tests share: comparing answers, typing texts, and counting what is wrong. */
final class Check {
    private static int wrong = 0;
    private static int checked = 0;
    private static String sentence = "";

    private Check() {
    }

    /** The answer of a call as a text: a number, or throws.NAME. */
    static String answer(Callable<?> call) {
        try {
            Object answer = call.call();
            if (answer instanceof Boolean) {
                return (Boolean) answer ? "1" : "0";
            }
            return String.valueOf(answer);
        } catch (Exception e) {
            return "throws." + e.getClass().getSimpleName();
        }
    }

    static void same(String what, String got, String want) {
        checked++;
        if (!got.equals(want)) {
            wrong++;
            if (wrong <= 50) {
                System.out.println(what + " answered " + got + ", due is " + want
                        + (sentence.isEmpty() ? "" : " (" + sentence + ")"));
            }
        }
    }

    /** For so many numbers that no text can be made for each of them. */
    static void number(String story, String call, int got, int want) {
        checked++;
        if (got != want) {
            checked--;
            same(story + ": " + call, Integer.toString(got), Integer.toString(want));
        }
    }

    /** The sentence of the document for which the next answers are checked. */
    static void under(String newSentence) {
        sentence = newSentence;
    }

    static int checked() {
        return checked;
    }

    static void due(String what, long want, Callable<?> call) {
        same(what, answer(call), Long.toString(want));
    }

    static void isTrue(String what, Callable<Boolean> call) {
        due(what, 1, call);
    }

    static void isFalse(String what, Callable<Boolean> call) {
        due(what, 0, call);
    }

    static void argument(String what, Callable<?> call) {
        same(what, answer(call), "throws.IllegalArgumentException");
    }

    static void state(String what, Callable<?> call) {
        same(what, answer(call), "throws.IllegalStateException");
    }

    static void index(String what, Callable<?> call) {
        same(what, answer(call), "throws.IndexOutOfBoundsException");
    }

    /** Empties the text and types another one. */
    static void type(BranchingStory story, String text) {
        story.clearText();
        for (int i = 0; i < text.length(); i++) {
            story.type(text.charAt(i));
        }
    }

    static BranchingStory typed(String text) {
        BranchingStory story = new BranchingStory();
        type(story, text);
        return story;
    }

    static BranchingStory built(String text) {
        BranchingStory story = typed(text);
        same("build of " + text, answer(story::build).startsWith("throws") ? "throws" : "builds", "builds");
        return story;
    }

    static BranchingStory started(String text) {
        BranchingStory story = built(text);
        story.start();
        return story;
    }

    static BranchingStory explored(String text, int limit) {
        BranchingStory story = built(text);
        story.explore(limit);
        return story;
    }

    static BranchingStory analyzed(String text) {
        BranchingStory story = built(text);
        story.analyze();
        return story;
    }

    static String repeat(String text, int times) {
        return text.repeat(times);
    }

    /** Ends the test. */
    static void end() {
        System.out.println(checked + " answers checked, " + wrong + " wrong");
        if (wrong > 0 || checked == 0) {
            System.exit(1);
        }
    }
}
