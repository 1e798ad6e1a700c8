import java.io.IOException;
import java.nio.file.Files;
import java.nio.file.Path;
import java.util.ArrayList;
import java.util.List;
import java.util.Set;
import java.util.TreeSet;

/**
 * The document, sentence by sentence. A test names the sentence that it is for before it checks
 * answers; at the end every sentence must have been named, and each must have had answers of its own.
 */
final class Doc {
    private static final int TERMS = 0;
    private static final int PROMISES = 37;

    // The examples have a test of their own, and these lines only say what a group of calls is called.
    private static final String[] NOT_ASKED = {"Examples: ", "1. A choice", "2. A choice", "3. A story", "4. A text",
        "5. A name", "Ahead of the calls"};

    /** For the Terms and each promise its sentences, in the order of the document. */
    private final List<List<String>> sentences = new ArrayList<>();
    private final Set<String> named = new TreeSet<>();
    private String latest = "";
    private int checkedBefore = 0;

    Doc() {
        for (int part = TERMS; part <= PROMISES; part++) {
            sentences.add(new ArrayList<>());
        }
        for (String section : text().split("\n## ")) {
            String title = section.substring(0, section.indexOf('\n'));
            if (title.equals("Terms")) {
                split(section, sentences.get(TERMS));
            } else if (title.startsWith("Promise ")) {
                split(section, sentences.get(Integer.parseInt(title.substring(8, title.indexOf(':')))));
            }
        }
    }

    private static String text() {
        try {
            return Files.readString(Path.of("../shared/DOC.md"));
        } catch (IOException e) {
            throw new IllegalStateException(e);
        }
    }

    private static void split(String section, List<String> into) {
        for (String line : section.substring(section.indexOf('\n')).split("\n")) {
            String plain = line.strip().replaceAll("\\s+", " ");
            boolean asked = !plain.isEmpty() && !plain.startsWith("```");
            for (String begin : NOT_ASKED) {
                asked = asked && !plain.startsWith(begin);
            }
            if (asked) {
                // A full stop that ends a sentence stands behind a word, not behind a blank.
                into.addAll(List.of(plain.split("(?<=[^ ][.]\\)?) ")));
            }
        }
    }

    /** What follows is checked for this sentence of the Terms (part 0) or of a promise. */
    void says(int part, String quote) {
        endLatest();
        boolean stands = false;
        for (String sentence : sentences.get(part)) {
            if (sentence.contains(quote)) {
                stands = true;
                named.add(part + " " + sentence);
            }
        }
        boolean found = stands;
        Check.isTrue("the document says in part " + part + ": " + quote, () -> found);
        latest = part + " " + quote;
        Check.under(latest);
        checkedBefore = Check.checked();
    }

    private void endLatest() {
        if (!latest.isEmpty()) {
            String before = latest;
            int answers = Check.checked() - checkedBefore;
            Check.isTrue("there are answers for " + before, () -> answers > 0);
        }
    }

    /** All sentences must have been named by now. */
    void end() {
        endLatest();
        Check.under("");
        for (int part = TERMS; part <= PROMISES; part++) {
            for (String sentence : sentences.get(part)) {
                String key = part + " " + sentence;
                Check.isTrue("there is a test for " + key, () -> named.contains(key));
            }
        }
        Check.isTrue("the document has sentences", () -> named.size() > 200);
    }
}
