import java.io.IOException;
import java.nio.file.Files;
import java.nio.file.Path;
import java.util.HashMap;
import java.util.Map;

/** The document's sentences by section (0 Terms, n Promise n), and which of them have been tested. */
final class Document {
    static final int PROMISES = 39;
    private final Map<Integer, String> whole = new HashMap<>();
    private final Map<Integer, String> left = new HashMap<>();

    Document(Path file) {
        String text = read(file);
        put(0, between(text, "## Terms", "## Promise 1:").replaceAll("(?m)^Ahead of the calls.*$", "")
                .replaceAll("(?m)^```.*$", ""));
        for (int n = 1; n <= PROMISES; n++) {
            String from = "## Promise " + n + ":";
            String to = n == PROMISES ? "## Not promised" : "## Promise " + (n + 1) + ":";
            put(n, between(text, from, to).replaceFirst("(?s)^.*?`[^`]*`:", ""));
        }
    }

    private static String read(Path file) {
        try {
            return Files.readString(file);
        } catch (IOException e) {
            throw new IllegalStateException(e);
        }
    }

    private static String between(String text, String from, String to) {
        int start = text.indexOf(from) + from.length();
        return text.substring(start, text.indexOf(to, start));
    }

    private void put(int section, String words) {
        String told = words.replaceAll("\\s+", " ").trim();
        whole.put(section, told);
        left.put(section, told);
    }

    /** Whether the section says so; if it does, that sentence is tested. */
    boolean says(int section, String sentence) {
        left.put(section, left.get(section).replace(sentence, "|"));
        return whole.get(section).contains(sentence);
    }

    /** What no test has named. */
    String untested(int section) {
        return left.get(section).replaceAll("[|=.;: 0-9]+", " ").trim();
    }
}
