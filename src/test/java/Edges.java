import java.io.IOException;
import java.nio.file.Files;
import java.nio.file.Path;
import java.util.LinkedHashMap;
import java.util.Map;
import java.util.Set;
import java.util.TreeSet;
import java.util.function.IntToLongFunction;

/**
 * Answers that are due by the document's own words: what is asked stands behind the words that it tries,
 * each quote has to stand in the document and to be tried, and at the end no word may be left unquoted.
 */
final class Edges {
    private static final Path DOC = Path.of("../shared/DOC.md");

    private final Due due;
    private final String all;
    private final Set<Integer> opened = new TreeSet<>();
    private final Map<String, Boolean> tried = new LinkedHashMap<>();
    private String heading = "";
    private String text = "";
    private boolean[] quoted = {};
    private String quote = "";

    Edges(String name) throws IOException {
        due = new Due(name);
        all = Files.readString(DOC);
    }

    /** Opens a promise by its number. */
    void promise(int number) {
        open("## Promise " + number + ": ");
        opened.add(number);
        text = text.substring(text.indexOf("`: ") + 3);
        quoted = new boolean[text.length()];
    }

    /** Opens what stands under a heading, up to the next one. */
    void open(String begins) {
        close();
        int at = all.indexOf(begins);
        due.holds(begins + " stands in the document", at >= 0);
        int from = all.indexOf('\n', at);
        int to = all.indexOf("\n## ", from);
        heading = all.substring(at, from);
        text = all.substring(from, to).replaceAll("```\\w*", "").replaceAll("\\s+", " ");
        quoted = new boolean[text.length()];
    }

    /** Opens some words alone, and quotes them. */
    void passage(String words) {
        close();
        due.holds(words + " stands in the document", all.contains(words));
        heading = "The document";
        text = words;
        quoted = new boolean[text.length()];
        says(words);
    }

    /** The words that the answers asked for next are due by. */
    void says(String words) {
        checkTried();
        int at = text.indexOf(words);
        due.holds(heading + " says: " + words, at >= 0);
        for (; at >= 0; at = text.indexOf(words, at + 1)) {
            for (int i = at; i < at + words.length(); i++) {
                quoted[i] = true;
            }
        }
        quote = words;
        tried.put(key(), false);
    }

    void is(String call, long got, long want) {
        due.is(heading + " (" + quote + "): " + call, got, want);
        tried.put(key(), true);
    }

    /** One answer for each of some numbers. */
    void each(String call, long want, IntToLongFunction ask, int... numbers) {
        for (int number : numbers) {
            is(call + " of " + number, ask.applyAsLong(number), want);
        }
    }

    /** The answers for 0, 1, .. */
    void list(String call, IntToLongFunction ask, long... wants) {
        for (int i = 0; i < wants.length; i++) {
            is(call + " of " + i, ask.applyAsLong(i), wants[i]);
        }
    }

    /** None of the promises from one to another may have been left out. */
    void hasOpened(int first, int last) {
        for (int number = first; number <= last; number++) {
            due.holds("promise " + number + " is tried", opened.contains(number));
        }
    }

    void end() {
        close();
        due.end();
    }

    private String key() {
        return heading + quote;
    }

    private void checkTried() {
        if (!quote.isEmpty()) {
            due.holds(heading + " (" + quote + ") is tried", tried.getOrDefault(key(), false));
        }
    }

    private void close() {
        checkTried();
        quote = "";
        StringBuilder left = new StringBuilder();
        for (int i = 0; i < text.length(); i++) {
            if (!quoted[i] && Character.isLetterOrDigit(text.charAt(i))) {
                left.append(text.charAt(i));
            }
        }
        due.holds(heading + " is quoted, but for " + left, left.length() == 0);
        text = "";
    }
}
