import java.io.IOException;
import java.nio.file.Files;
import java.nio.file.Path;

/**
 * One section of the document, and the sentences of it that tests name. A sentence that doesn't stand there, one that
 * is named but asked nothing about, and words of the section that no test names, are all told as wrong.
 */
final class Sentences {
    private static final Path DOCUMENT = Path.of("../shared/DOC.md");

    private final Check check;
    private final String section;
    private final String text;
    private final boolean[] named;
    private String sentence = "";
    private int asked = 0;

    private Sentences(Check check, String section, String text) {
        this.check = check;
        this.section = section;
        this.text = text;
        this.named = new boolean[text == null ? 0 : text.length()];
    }

    /** Part 1 to 4 of "Terms". */
    static Sentences ofTerms(Check check, int part) {
        String from = part == 1 ? "## Terms" : "======== " + part;
        String to = part == 4 ? "Refused, and nothing changes" : "======== " + (part + 1);
        return new Sentences(check, "Terms, part " + part, between(from, to));
    }

    /** What stands behind the parts of "Terms" and holds for every call. */
    static Sentences ofRefusals(Check check) {
        return new Sentences(check, "Terms", between("IMAGES are gone.)", "Ahead of the calls `type`"));
    }

    static Sentences ofUse(Check check) {
        return new Sentences(check, "What it is", between("1 BOUGHS 0 ..", "## The public face"));
    }

    /** The call that a promise is about stands in backticks ahead of its sentences. */
    static Sentences ofPromise(Check check, int number) {
        String to = number == 32 ? "## Not promised" : "## Promise " + (number + 1) + ":";
        String all = between("## Promise " + number + ":", to);
        String told = all == null ? null : all.substring(all.indexOf("`: ") + 3);
        return new Sentences(check, "Promise " + number, told);
    }

    /** From here on it is this sentence that is asked about. */
    void says(String quoted) {
        leave();
        sentence = quoted;
        if (text == null) {
            return;
        }
        int at = text.indexOf(quoted);
        check.holds(section + " does not say: " + quoted, at >= 0);
        for (int i = 0; at >= 0 && i < quoted.length(); i++) {
            named[at + i] = true;
        }
    }

    void due(String what, long got, long want) {
        asked++;
        check.due(section + ", \"" + sentence + "\": " + what, got, want);
    }

    void same(String what, String got, String want) {
        asked++;
        check.holds(section + ", \"" + sentence + "\": " + what + ": " + got + ", due is " + want, got.equals(want));
    }

    void finish() {
        leave();
        StringBuilder left = new StringBuilder();
        for (int i = 0; i < named.length; i++) {
            left.append(named[i] || !Character.isLetterOrDigit(text.charAt(i)) ? ' ' : text.charAt(i));
        }
        String words = left.toString().strip().replaceAll(" +", " ");
        check.holds(section + " says what no test names: " + words, words.isEmpty());
    }

    private void leave() {
        check.holds(section + ", nothing was asked about: " + sentence, sentence.isEmpty() || asked > 0);
        asked = 0;
    }

    /** Null, if there is no document: its sentences are asked about all the same. */
    private static String between(String from, String to) {
        if (!Files.exists(DOCUMENT)) {
            return null;
        }
        try {
            String all = Files.readString(DOCUMENT).replaceAll("(?m)^```.*$", " ").replaceAll("\\s+", " ");
            int start = all.indexOf(from);
            int end = start < 0 ? -1 : all.indexOf(to, start + from.length());
            if (end < 0) {
                throw new IllegalStateException("the document has nothing between '" + from + "' and '" + to + "'");
            }
            return all.substring(start + from.length(), end).strip();
        } catch (IOException e) {
            throw new IllegalStateException(e);
        }
    }
}
