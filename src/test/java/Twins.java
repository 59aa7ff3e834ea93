import java.util.ArrayList;
import java.util.List;

/**
 * Whether a call changed anything, told by what other calls answer behind it: the same run is made on new
 * objects with and without the call, and each is looked at from all sides.
 */
final class Twins {
    private static final int MOST_CALLS = 512;

    private interface Look {
        void at(Twins one);
    }

    private final HamperDays x = new HamperDays();
    private final List<Long> answers = new ArrayList<>();
    private int calls = 0;

    private Twins(List<Call> run) {
        for (Call call : run) {
            call.on(x);
            calls++;
        }
    }

    /** A text that is refused empties THE TAPE and tells its FAULT: its twin's TAPE is emptied by end(0). */
    static boolean isUnchangedBy(Call call, List<Call> before) {
        List<Call> with = new ArrayList<>(before);
        List<Call> without = new ArrayList<>(before);
        with.add(call);
        boolean isText = call.name().equals("text");
        if (isText) {
            without.add(Call.of("end(0)"));
        }
        return same(with, without, Twins::state) && same(with, without, Twins::images)
                && same(with, without, Twins::sheets) && same(with, without, Twins::tape)
                && (isText || same(with, without, Twins::fault));
    }

    private static boolean same(List<Call> with, List<Call> without, Look look) {
        return looked(with, look).equals(looked(without, look));
    }

    private static List<Long> looked(List<Call> run, Look look) {
        Twins one = new Twins(run);
        look.at(one);
        if (one.calls > MOST_CALLS) {
            throw new IllegalStateException("a run is too long to be looked at: " + one.calls + " calls");
        }
        return one.answers;
    }

    private long put(long answer) {
        calls++;
        answers.add(answer);
        return answer;
    }

    private void rules() {
        for (int what = 0; what < 7; what++) {
            put(x.rule(what));
        }
    }

    private void traits() {
        for (int i = 0; i < 7; i++) {
            put(x.thing(i, 0));
            put(x.thing(i, 1));
            put(x.thing(i, 2));
            put(x.thing(i, 6));
        }
    }

    private void state() {
        rules();
        traits();
        for (int i = 0; i < 7; i++) {
            put(x.thing(i, 3));
            put(x.thing(i, 4));
            put(x.thing(i, 5));
            put(x.kinds(i));
            put(x.goods(i));
        }
        for (int what = 0; what < 6; what++) {
            put(x.count(what));
            put(x.runs(9, what));
        }
        put(x.torn());
        put(x.drift(5, 9, 0));
    }

    private void images() {
        for (int k = 0; k < 2; k++) {
            put(x.back(k));
            rules();
            traits();
            put(x.count(0));
            put(x.goods(0));
            put(x.goods(1));
        }
    }

    private void sheets() {
        put(x.strap());
        for (int i = 0; i < 7; i++) {
            put(x.lift());
        }
        for (int k = 0; k < 4; k++) {
            for (int lane = 0; lane < 3; lane++) {
                three(k, lane, 0);
                three(k, lane, 3);
            }
            for (int i : new int[] {0, 1, 2, 3, 5, 6, 39}) {
                put(x.lay(k, i, 0));
            }
        }
    }

    private void three(int k, int lane, int f) {
        if (put(x.read(k, lane, f, 1)) == 1) {
            put(x.thing(0, 0));
            put(x.thing(0, 1));
            put(x.thing(0, 2));
            put(x.lift());
        }
        put(x.torn());
    }

    private void tape() {
        put(x.text());
        put(x.fault());
        rules();
        traits();
    }

    private void fault() {
        put(x.fault());
    }
}
