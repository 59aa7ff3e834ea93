import java.nio.file.Path;
import java.util.ArrayList;
import java.util.List;

/**
 * Runs of calls written as text, one line each, with the answer that is due:
 *
 * <pre>
 *   told 'plain 6 2;mood 10;'       these letters are fed, and text() takes them
 *   fed 'plain'                     these letters are fed
 *   text 'plain 10 2;' = -16 3      fed, then the answers of text() and of fault()
 *   hours(1) = 15                   a call and its answer (a number, BAD, STATE, FULL, NONE)
 *   33 * hours(30)                  a call made so often; its answer, if told, is due each time
 *   rules = 1 0 10 1                rule(0), rule(1), ..
 *   thing(0) = 0 6 2                thing(0, 0), thing(0, 1), ..
 *   counts = 0 0                    count(0), count(1), ..
 *   laid 3 = 0 6 2                  lay(3, 0, 0), lay(3, 1, 6), ..
 *   bounds runs(0..60, 0)           BAD outside of the bounds, and not BAD at them
 *   new                             another object
 * </pre>
 *
 * Of each call that is refused, and of each that only asks, it is looked at whether it changed anything.
 */
final class Edge {
    private static final int MOST_CALLS = 512;
    private final Check check = new Check();
    private final Document document = new Document(Path.of("../shared/DOC.md"));
    private List<Call> made = new ArrayList<>();
    private HamperDays x = new HamperDays();

    /** What is tested from here on, in the document's own words. */
    void says(int section, String sentence) {
        check.part((section == 0 ? "Terms" : "Promise " + section) + " '" + sentence + "'");
        check.holds("the document does not say so", document.says(section, sentence));
    }

    void run(String lines) {
        begin();
        lines(lines);
    }

    /** Each of the lines on an object of its own, behind the same start. */
    void eachBehind(String start, String lines) {
        for (String line : lines.split("\n")) {
            begin();
            lines(start);
            lines(line);
        }
    }

    private void lines(String lines) {
        for (String line : lines.split("\n")) {
            String told = line.replaceFirst("//.*$", "").trim();
            if (!told.isEmpty()) {
                line(told);
            }
        }
    }

    void due(String what, long got, long want) {
        check.due(what, got, want);
    }

    void close() {
        for (int section = 0; section <= Document.PROMISES; section++) {
            check.part(section == 0 ? "Terms" : "Promise " + section);
            check.due("letters that no test names: " + document.untested(section), document.untested(section).length(), 0);
        }
        check.close();
    }

    private void begin() {
        made = new ArrayList<>();
        x = new HamperDays();
    }

    private void line(String told) {
        int equal = told.lastIndexOf('=');
        String left = equal < 0 ? told : told.substring(0, equal).trim();
        long[] wants = equal < 0 ? new long[0] : answers(told.substring(equal + 1).trim());
        String word = left.replaceFirst("(?s)[ (].*$", "");
        switch (word) {
            case "new": begin(); break;
            case "told": feed(quoted(left)); check.holds("taken: " + left, make(Call.of("text()")) >= 0); break;
            case "fed": feed(quoted(left)); break;
            case "text": text(left, wants); break;
            case "rules": each("rule(*)", wants); break;
            case "counts": each("count(*)", wants); break;
            case "laid": lay(Integer.parseInt(left.substring(word.length()).trim()), wants); break;
            case "bounds": bounds(left.substring(word.length()).trim()); break;
            default: calls(left, wants); break;
        }
    }

    private static long[] answers(String told) {
        String[] words = told.split(" +");
        long[] wants = new long[words.length];
        for (int k = 0; k < words.length; k++) {
            switch (words[k]) {
                case "BAD": wants[k] = -1; break;
                case "STATE": wants[k] = -2; break;
                case "FULL": wants[k] = -3; break;
                case "NONE": wants[k] = -4; break;
                default: wants[k] = Long.parseLong(words[k]); break;
            }
        }
        return wants;
    }

    private static String quoted(String told) {
        return told.substring(told.indexOf('\'') + 1, told.lastIndexOf('\''));
    }

    private void calls(String left, long[] wants) {
        int star = left.indexOf('*');
        int times = star < 0 ? 1 : Integer.parseInt(left.substring(0, star).trim());
        String told = left.substring(star + 1).trim();
        if (told.matches("thing\\(\\d+\\)")) {
            each(told.replace(")", ", *)"), wants);
            return;
        }
        for (int k = 0; k < times; k++) {
            if (wants.length == 0) {
                make(Call.of(told));
            } else {
                due(Call.of(told), wants[0]);
            }
        }
    }

    private void each(String form, long[] wants) {
        for (int what = 0; what < wants.length; what++) {
            Call call = Call.of(form.replace("*", Integer.toString(what)));
            due(call, wants[what]);
        }
    }

    private void lay(int k, long[] cells) {
        for (int i = 0; i < cells.length; i++) {
            due(new Call("lay", k, i, (int) cells[i]), 1);
        }
    }

    private void feed(String letters) {
        for (int k = 0; k < letters.length(); k++) {
            make(new Call("feed", letters.charAt(k)));
        }
    }

    private void text(String left, long[] wants) {
        if (left.equals("text()")) {
            due(Call.of("text()"), wants[0]);
            return;
        }
        feed(quoted(left));
        due(Call.of("text()"), wants[0]);
        due(Call.of("fault()"), wants[1]);
    }

    private long make(Call call) {
        made.add(call);
        if (made.size() > MOST_CALLS) {
            throw new IllegalStateException("more than " + MOST_CALLS + " calls of one object");
        }
        return call.on(x);
    }

    private void due(Call call, long want) {
        List<Call> before = new ArrayList<>(made);
        long got = make(call);
        check.due(call + " behind " + before.size() + " calls", got, want);
        if (call.asksOnly() || want < 0) {
            check.holds(call + " changed something", Twins.isUnchangedBy(call, before));
        }
    }

    /** All of it is tried on twins, so that the run itself stays as it is. */
    private void bounds(String form) {
        String open = form.replaceFirst("^.*?(-?\\d+)\\.\\.(-?\\d+).*$", "$1 $2");
        int least = Integer.parseInt(open.split(" ")[0]);
        int most = Integer.parseInt(open.split(" ")[1]);
        String head = form.substring(0, form.indexOf(".."));
        int at = (int) head.chars().filter(c -> c == ',').count();
        Call call = Call.of(form.replaceFirst("(-?\\d+)\\.\\.(-?\\d+)", "0"));
        taken(call.with(at, least));
        taken(call.with(at, most));
        int[] outside = {least - 1, most + 1, Integer.MIN_VALUE, Integer.MIN_VALUE + 1, Integer.MAX_VALUE,
            Integer.MAX_VALUE - 1, least + 256, least - 256, least + 65536, least - 65536};
        for (int v : outside) {
            check.due(call.with(at, v).toString(), onTwin(call.with(at, v)), HamperDays.BAD);
            check.holds(call.with(at, v) + " changed something", Twins.isUnchangedBy(call.with(at, v), made));
        }
    }

    private void taken(Call call) {
        long got = onTwin(call);
        check.holds(call + " is BAD", got != HamperDays.BAD);
        if (call.asksOnly() || got < 0) {
            check.holds(call + " changed something", Twins.isUnchangedBy(call, made));
        }
    }

    private long onTwin(Call call) {
        HamperDays twin = new HamperDays();
        for (Call before : made) {
            before.on(twin);
        }
        return call.on(twin);
    }
}
