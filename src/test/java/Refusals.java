/**
 * Every call with numbers in and out of its range, in many states of an object: the exception that
 * is due is the one that the document lists first, and behind a refused call nothing has changed.
 */
final class Refusals {
    private static final String NOTHING = "";
    private static final String ARGUMENT = "IllegalArgumentException";
    private static final String STATE = "IllegalStateException";
    private static final String INDEX = "IndexOutOfBoundsException";
    private static final int[] NUMBERS = {Integer.MIN_VALUE, -1, 0, 1, 2, 3, 4, 5, 6, 7, 11, 12, 15, 16, 19, 20, 99, 100, 255, 256, 300,
        301, Integer.MAX_VALUE};

    // Four nodes, six choices, two tests. Ways: ending 4 by position 2, a loop by 1 2, and no other.
    private static final String STORY = "=A 7?a{9}[1]{x+1}[2]{>B}[3]{.4}=B#8?b{}[4]{+a>A}[5]{<}[6]{>C}=C>C=D";
    private static final int[] WAYS = {-1, -1, -1, -1, 1, -1, -1, -1, -1, -1, -1, 2};
    private static final int[] NO_WAYS = {-1, -1, -1, -1, -1, -1, -1, -1, -1, -1, 0, -1};

    /** Calls that lead to a state, and what the document says of this state. */
    private static final class Place {
        final String text;
        final String[] calls;
        int typed;
        boolean faulty;
        boolean built;
        int nodes;
        int choices;
        int tests;
        int status;
        int offered;
        int history;
        boolean explored;
        boolean analyzed;
        int[] ways = WAYS;

        Place(String text, String... calls) {
            this.text = text;
            this.calls = calls;
            typed = text.length();
        }

        Place ofStory(int newNodes, int newChoices, int newTests) {
            built = true;
            nodes = newNodes;
            choices = newChoices;
            tests = newTests;
            return this;
        }

        Place played(int newStatus, int newOffered, int newHistory) {
            status = newStatus;
            offered = newOffered;
            history = newHistory;
            return this;
        }

        Place withText(int newTyped, boolean newFaulty) {
            typed = newTyped;
            faulty = newFaulty;
            return this;
        }

        Place explored(int[] newWays) {
            explored = true;
            ways = newWays;
            return this;
        }

        Place analyzed() {
            analyzed = true;
            return this;
        }
    }

    private final Doc doc;

    Refusals(Doc doc) {
        this.doc = doc;
    }

    void check() {
        doc.says(0, "A call that throws an exception changes nothing.");
        for (Place place : places()) {
            String unchanged = Calls.make(place.text, place.calls).all();
            checkAll(place, unchanged);
        }
        doc.says(0, "If several exceptions apply, the one that is listed first is thrown.");
        Calls.refusedArgument("type -1", " ".repeat(400));
        Calls.refusedState("choose -1", "=A", "build", "start");
        Calls.refusedArgument("explore 0", "");
        Calls.refusedArgument("wayLength 12", "");
        Calls.refusedArgument("way 12 -1", "");
        Calls.refusedState("way 0 -1", "");
        Calls.refusedArgument("outcomes 12", "");
        Calls.refusedArgument("occurred 3 -1", "");
        Calls.refusedState("occurred 0 -1", "");
        Calls.refusedArgument("isReached 2 -1", "");
        Calls.refusedState("isReached 0 -1", "");
        Calls.refusedArgument("lowest -1 3", "");
        Calls.refusedArgument("lowest -1 3", "=A", "build", "analyze");
        Calls.refusedState("lowest -1 0", "");
        Calls.refusedArgument("greatest -1 3", "");
        Calls.refusedArgument("greatest -1 3", "=A", "build", "analyze");
        Calls.refusedState("greatest -1 0", "");
        Calls.refusedArgument("values -1 6", "");
        Calls.refusedArgument("values -1 6", "=A", "build", "analyze");
        Calls.refusedState("values -1 0", "");
        Calls.refusedState("hubs -1", "");
        Calls.refusedState("verdict -1", "");
        Calls.refusedArgument("possible 2", "");
    }

    private static Place[] places() {
        int length = STORY.length();
        String full = "=A" + "<".repeat(398);
        return new Place[] {
            new Place("").withText(0, true),
            new Place("=A}").withText(3, true),
            new Place(STORY),
            new Place(full),
            new Place(full, "build", "start").ofStory(1, 0, 0).played(3, 0, 0),
            new Place(full.substring(0, 399) + "}").withText(400, true),
            new Place(STORY, "build").ofStory(4, 6, 2),
            new Place(STORY, "build", "start").ofStory(4, 6, 2).played(1, 3, 0),
            new Place(STORY, "build", "start", "choose 0", "choose 0", "choose 1").ofStory(4, 6, 2).played(1, 3, 3),
            new Place(STORY, "build", "start", "choose 1", "choose 1").ofStory(4, 6, 2).played(1, 2, 2),
            new Place(STORY, with("build", "start", 12)).ofStory(4, 6, 2).played(1, 3, 12),
            new Place(STORY, with("build", "start", 15)).ofStory(4, 6, 2).played(1, 3, 12),
            new Place(STORY, "build", "start", "choose 2").ofStory(4, 6, 2).played(2, 0, 1),
            new Place(STORY, "build", "start", "choose 1", "choose 2").ofStory(4, 6, 2).played(4, 0, 2),
            new Place("=A#7[1]{}", "build", "start", "choose 0").ofStory(1, 1, 0).played(3, 0, 1),
            new Place(STORY, "build", "start", "choose 0", "back").ofStory(4, 6, 2).played(1, 3, 0),
            new Place(STORY, "build", "start", "choose 0", "start").ofStory(4, 6, 2).played(1, 3, 0),
            new Place(STORY, "build", "explore 300").ofStory(4, 6, 2).explored(WAYS),
            new Place(STORY, "build", "explore 2").ofStory(4, 6, 2)
                    .explored(new int[] {-1, -1, -1, -1, 1, -1, -1, -1, -1, -1, -1, -1}),
            new Place("=A", "build", "explore 1").ofStory(1, 0, 0).explored(NO_WAYS),
            new Place(STORY, "build", "analyze").ofStory(4, 6, 2).analyzed(),
            new Place(STORY, "build", "start", "choose 0", "explore 300", "analyze").ofStory(4, 6, 2).played(1, 3, 1)
                    .explored(WAYS).analyzed(),
            new Place(STORY, "build", "start", "choose 0", "explore 300", "analyze", "text =A>B").ofStory(4, 6, 2).played(1, 3, 1)
                    .explored(WAYS).analyzed().withText(4, true),
            new Place(STORY, "build", "start", "choose 0", "explore 300", "analyze", "clearText").ofStory(4, 6, 2).played(1, 3, 1)
                    .explored(WAYS).analyzed().withText(0, true),
            new Place(STORY, "build", "start", "choose 0", "explore 300", "analyze", "build").ofStory(4, 6, 2),
            new Place(STORY, "build", "start", "choose 0", "explore 300", "analyze", "text =B[1]{}", "build").ofStory(1, 1, 0)
                    .withText(7, false),
        };
    }

    private static String[] with(String first, String second, int choices) {
        String[] calls = new String[choices + 2];
        calls[0] = first;
        calls[1] = second;
        for (int i = 0; i < choices; i++) {
            calls[i + 2] = "choose 0";
        }
        return calls;
    }

    private static void checkAll(Place p, String unchanged) {
        for (String name : new String[] {"clearText", "fault", "build", "start", "back", "status", "ending", "node", "hub", "offered",
            "said", "isComplete", "analyze"}) {
            checkOne(p, unchanged, dueWithout(p, name), name);
        }
        for (int a : NUMBERS) {
            for (String name : new String[] {"type", "count", "name", "isHub", "label", "nodeOf", "choose", "choice", "flag", "meter", "line",
                "explore", "wayLength", "outcomes", "hubs", "verdict", "possible"}) {
                checkOne(p, unchanged, dueWithOne(p, name, a), name, a);
            }
            for (int b : NUMBERS) {
                for (String name : new String[] {"way", "occurred", "isReached", "lowest", "greatest", "values"}) {
                    // One of two numbers is at an edge that matters: the other ones would repeat it.
                    if (a < 13 && (b < 17 || b == 99 || b == 100 || b == Integer.MAX_VALUE)) {
                        checkOne(p, unchanged, dueWithTwo(p, name, a, b), name, a, b);
                    }
                }
            }
        }
    }

    private static void checkOne(Place p, String unchanged, String due, String name, int... numbers) {
        Calls object = Calls.make(p.text, p.calls);
        String answer = object.call(name, numbers);
        String got = answer.startsWith("throws.") ? answer.substring(7) : NOTHING;
        StringBuilder call = new StringBuilder(name);
        for (int number : numbers) {
            call.append(' ').append(number);
        }
        String where = call + " behind " + p.text + " " + String.join(" ", p.calls);
        Check.same(where, got, due);
        if (!due.isEmpty()) {
            Check.same("all answers behind the refused " + where, object.all(), unchanged);
        }
    }

    private static boolean within(int number, int first, int last) {
        return number >= first && number <= last;
    }

    private static String dueWithout(Place p, String name) {
        switch (name) {
            case "build":
                return p.faulty ? STATE : NOTHING;
            case "start":
            case "analyze":
                return p.built ? NOTHING : STATE;
            case "back":
                return p.history == 0 ? STATE : NOTHING;
            case "isComplete":
                return p.explored ? NOTHING : STATE;
            default:
                return NOTHING;
        }
    }

    private static String dueWithOne(Place p, String name, int a) {
        switch (name) {
            case "type":
                return !within(a, 0, 255) ? ARGUMENT : p.typed == 400 ? STATE : NOTHING;
            case "count":
                return within(a, 0, 2) ? NOTHING : ARGUMENT;
            case "name":
            case "isHub":
                return within(a, 0, p.nodes - 1) ? NOTHING : INDEX;
            case "label":
            case "nodeOf":
                return within(a, 0, p.choices - 1) ? NOTHING : INDEX;
            case "choose":
                return p.status != 1 ? STATE : within(a, 0, p.offered - 1) ? NOTHING : INDEX;
            case "choice":
                return within(a, 0, p.offered - 1) ? NOTHING : INDEX;
            case "flag":
                return within(a, 0, 5) ? NOTHING : ARGUMENT;
            case "meter":
                return within(a, 0, 2) ? NOTHING : ARGUMENT;
            case "line":
                return within(a, 0, 19) ? NOTHING : ARGUMENT;
            case "explore":
                return !within(a, 1, 300) ? ARGUMENT : p.built ? NOTHING : STATE;
            case "wayLength":
            case "outcomes":
                return !within(a, 0, 11) ? ARGUMENT : p.explored ? NOTHING : STATE;
            case "hubs":
                return !p.analyzed ? STATE : within(a, 0, p.nodes - 1) ? NOTHING : INDEX;
            case "verdict":
                return !p.analyzed ? STATE : within(a, 0, p.tests - 1) ? NOTHING : INDEX;
            default:
                return !within(a, 0, 1) ? ARGUMENT : p.analyzed ? NOTHING : STATE;
        }
    }

    private static String dueWithTwo(Place p, String name, int a, int b) {
        switch (name) {
            case "way":
                return !within(a, 0, 11) ? ARGUMENT : !p.explored ? STATE : within(b, 0, p.ways[a] - 1) ? NOTHING : INDEX;
            case "occurred":
                return !within(a, 0, 2) ? ARGUMENT : !p.explored ? STATE
                        : within(b, 0, (a == 0 ? 100 : a == 1 ? p.nodes : p.choices) - 1) ? NOTHING : INDEX;
            case "isReached":
                return !within(a, 0, 1) ? ARGUMENT : !p.analyzed ? STATE
                        : within(b, 0, (a == 0 ? p.nodes : p.choices) - 1) ? NOTHING : INDEX;
            case "values":
                return !within(b, 0, 5) ? ARGUMENT : !p.analyzed ? STATE : within(a, 0, p.nodes - 1) ? NOTHING : INDEX;
            default:
                return !within(b, 0, 2) ? ARGUMENT : !p.analyzed ? STATE : within(a, 0, p.nodes - 1) ? NOTHING : INDEX;
        }
    }
}
