import java.io.IOException;
import java.nio.file.Files;
import java.nio.file.Path;
import java.util.regex.Matcher;
import java.util.regex.Pattern;

/**
 * The words of DOC.md, promise by promise (0: the terms), and which of them some test has quoted:
 * a sentence that no test speaks of is found so.
 */
final class Document {
    static final int TERMS = 0;
    private static final int PROMISES = 60;

    private final Checks checks;
    private final String[] words = new String[PROMISES + 1];
    private final boolean[][] quoted = new boolean[PROMISES + 1][];

    Document(Path file, Checks checks) throws IOException {
        this.checks = checks;
        String text = Files.readString(file);
        String start = between(text, "\n## What it is\n", "\n## The public face");
        String terms = between(text, "\n## Terms\n", "\n## Promise 1:");
        words[TERMS] = plain((start + terms).replaceAll("(?m)^(Where one lives:|Ahead of the calls|```).*$", ""));
        for (int n = 1; n <= PROMISES; n++) {
            String end = n < PROMISES ? "\n## Promise " + (n + 1) + ":" : "\n## Not promised";
            Matcher matcher = Pattern.compile("`[^`]*`: (.*)", Pattern.DOTALL)
                .matcher(between(text, "\n## Promise " + n + ":", end));
            words[n] = matcher.find() ? plain(matcher.group(1)) : "";
        }
        for (int n = 0; n <= PROMISES; n++) {
            quoted[n] = new boolean[words[n].length()];
        }
    }

    private static String between(String text, String start, String end) {
        int from = text.indexOf(start);
        int to = text.indexOf(end);
        return from >= 0 && to > from ? text.substring(from + start.length(), to) : "";
    }

    private static String plain(String text) {
        return text.replaceAll("\\s+", " ").trim();
    }

    /** A quote stands in the promise just once, so that it is plain which sentence is meant. */
    void quote(int promise, String quote) {
        int at = words[promise].indexOf(quote);
        if (at < 0 || words[promise].indexOf(quote, at + 1) >= 0) {
            checks.fault("promise " + promise + " does not say just once: " + quote);
            return;
        }
        for (int k = at; k < at + quote.length(); k++) {
            quoted[promise][k] = true;
        }
    }

    /** Tells every row of words that no test has quoted. */
    void tellUnquoted() {
        for (int n = 0; n <= PROMISES; n++) {
            checks.due("promise " + n + " has words", words[n].isEmpty(), false);
            StringBuilder left = new StringBuilder();
            for (int k = 0; k <= words[n].length(); k++) {
                if (k < words[n].length() && !quoted[n][k]) {
                    left.append(words[n].charAt(k));
                } else {
                    boolean some = left.toString().matches(".*\\w.*");
                    checks.due("promise " + n + ", no test for \"" + left + "\"", some, false);
                    left.setLength(0);
                }
            }
        }
    }
}
