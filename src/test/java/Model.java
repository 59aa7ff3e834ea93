import java.math.BigInteger;
import java.util.ArrayList;
import java.util.HashMap;
import java.util.List;
import java.util.Map;
import java.util.function.Consumer;
import java.util.function.IntUnaryOperator;
import java.util.regex.Matcher;
import java.util.regex.Pattern;

/**
 * The document written a second time, as plainly as may be and with the whole library, to be held
 * against HamperDays. It shares nothing with it: THINGS are objects that each know where they are,
 * SHEETS are rows of the machine, and the machine's own refusals are the FAULTS.
 */
public final class Model {
    private static final int BAD = -1, STATE = -2, FULL = -3, NONE = -4;
    private static final List<String> KINDS = List.of("plain", "glass", "shower", "view");

    private enum Where { IN, OUT, GONE }

    private static final class Thing {
        int kind, good, weight, hours;
        Where where = Where.IN;

        Thing(int kind, int good, int weight) {
            this.kind = kind;
            this.good = good;
            this.weight = weight;
        }

        Thing copy() {
            Thing t = new Thing(kind, good, weight);
            t.where = where;
            t.hours = hours;
            return t;
        }

        int bears() {
            return List.of(2 * weight, weight, 2 * weight, weight).get(kind);
        }

        int lasts() {
            return List.of(3, 3, 5, 6).get(kind);
        }
    }

    private static final class Day {
        List<Thing> things = new ArrayList<>();
        int mood = 30, tire = 1, hour = 0;
        List<List<Integer>> seen = new ArrayList<>();

        Day copy() {
            Day d = new Day();
            things.forEach(t -> d.things.add(t.copy()));
            d.mood = mood;
            d.tire = tire;
            d.hour = hour;
            d.seen.addAll(seen);
            return d;
        }

        boolean allIn() {
            return things.stream().allMatch(t -> t.where == Where.IN);
        }

        int behind(Thing t) {
            return things.subList(things.indexOf(t) + 1, things.size()).stream().mapToInt(o -> o.weight).sum();
        }

        boolean crushed(Thing t) {
            return behind(t) > t.bears();
        }

        int cheers(Thing t) {
            int asPlain = crushed(t) ? Math.floorDiv(t.good, 2) : t.good;
            int asGlass = 2 * asPlain;
            return List.of(asPlain, asGlass, 0 - asPlain, 1 + asGlass).get(t.kind);
        }

        void hour(boolean lid) {
            Thing last = null;
            for (Thing t : things) {
                if (t.where == Where.IN) {
                    last = t;
                }
            }
            if (last != null && !lid) {
                last.where = Where.OUT;
                last.hours = last.lasts();
            }
            int sum = -tire;
            for (Thing t : things) {
                sum += t.where == Where.OUT ? cheers(t) : 0;
            }
            mood += sum;
            mood = mood < 0 ? 0 : mood > 99 ? 99 : mood;
            for (Thing t : things) {
                if (t.where == Where.OUT) {
                    t.hours--;
                    if (t.hours == 0) {
                        t.where = Where.GONE;
                    }
                }
            }
            hour++;
        }

        Day hours(int n) {
            for (int k = 0; k < n; k++) {
                hour(false);
            }
            return this;
        }

        int strap() {
            int n = 0;
            for (Thing t : things) {
                n += t.where == Where.IN ? 0 : 1;
                t.where = Where.IN;
                t.hours = 0;
            }
            return n;
        }

        int bits(java.util.function.Predicate<Thing> which) {
            int bits = 0;
            for (int i = 0; i < things.size(); i++) {
                bits += which.test(things.get(i)) ? (int) Math.pow(2, i) : 0;
            }
            return bits;
        }
    }

    private Day day = new Day();
    private final Day[] images = new Day[2];
    private final Object[] sheets = new Object[4];
    private String tape = "";
    private int fault = 0, torn = 0;

    private static boolean in(int v, int a, int b) {
        return a <= v && v <= b;
    }

    private boolean has(int i) {
        return in(i, 0, day.things.size() - 1);
    }

    public int feed(int c) {
        if (!in(c, 0, 127)) {
            return BAD;
        }
        if (tape.length() == 160) {
            return FULL;
        }
        tape += (char) c;
        return tape.length();
    }

    public int end(int n) {
        if (!in(n, 0, tape.length())) {
            return BAD;
        }
        int had = tape.length();
        tape = tape.substring(0, n);
        return had;
    }

    /** A fault with its place, thrown by what reads the text. */
    private static final class Wrong extends RuntimeException {
        private static final long serialVersionUID = 1;
        final int which, place;

        Wrong(int which, int place) {
            this.which = which;
            this.place = place;
        }
    }

    private static final class Reader {
        static final Pattern TOKEN = Pattern.compile(" *(?:([a-z]+)|([0-9]+)|(;)|(.)|($))", Pattern.DOTALL);
        final String text;
        int from = 0, at;
        String token;

        Reader(String text) {
            this.text = text;
        }

        String next() {
            Matcher m = TOKEN.matcher(text).region(from, text.length());
            m.lookingAt();
            token = m.group().replace(" ", "");
            at = m.end() - token.length();
            from = m.end();
            if (m.group(4) != null || m.group(2) != null && m.group(2).length() > 2) {
                throw new Wrong(1, at);
            }
            return token;
        }

        void want(String pattern) {
            if (!next().matches(pattern)) {
                throw new Wrong(2, at);
            }
        }

        int number(int a, int b) {
            want("[0-9]+");
            int v = Integer.parseInt(token);
            if (!in(v, a, b)) {
                throw new Wrong(3, at);
            }
            return v;
        }
    }

    private static int tell(Reader r, Day d) {
        Map<String, Integer> told = new HashMap<>();
        for (int lines = 0; ; lines++) {
            String name = r.next();
            if (name.isEmpty()) {
                return lines;
            }
            if (!KINDS.contains(name) && !name.equals("mood") && !name.equals("tire")) {
                throw new Wrong(2, r.at);
            }
            if (KINDS.contains(name)) {
                if (d.things.size() == 7) {
                    throw new Wrong(5, r.at);
                }
                int good = r.number(0, 9);
                d.things.add(new Thing(KINDS.indexOf(name), good, r.number(1, 9)));
            } else {
                if (told.containsKey(name)) {
                    throw new Wrong(4, r.at);
                }
                told.put(name, r.number(0, name.equals("mood") ? 99 : 9));
            }
            r.want(";");
            d.mood = told.getOrDefault("mood", 30);
            d.tire = told.getOrDefault("tire", 1);
        }
    }

    public int text() {
        Reader r = new Reader(tape);
        tape = "";
        Day d = new Day();
        try {
            int lines = tell(r, d);
            day = d;
            images[0] = null;
            images[1] = null;
            fault = 0;
            return lines;
        } catch (Wrong w) {
            fault = w.which;
            return -10 - w.place;
        }
    }

    public int fault() {
        return fault;
    }

    public int rule(int what) {
        int left = (int) day.things.stream().filter(t -> t.where == Where.IN).count();
        List<Integer> all = List.of(day.things.size(), day.hour, day.mood, day.tire, left,
                day.bits(t -> t.where == Where.OUT), day.bits(day::crushed));
        return in(what, 0, 6) ? all.get(what) : BAD;
    }

    public int thing(int i, int what) {
        if (!has(i) || !in(what, 0, 6)) {
            return BAD;
        }
        Thing t = day.things.get(i);
        int out = t.where == Where.OUT ? t.hours : 0;
        return List.of(t.kind, t.good, t.weight, t.bears(), day.behind(t), 20 + day.cheers(t), out).get(what);
    }

    private static boolean fits(int what, int v) {
        return what == 0 && in(v, 0, 3) || what == 1 && in(v, 0, 9) || what == 2 && in(v, 1, 9);
    }

    private static int set(Thing t, int what, int v) {
        int was = what == 0 ? t.kind : what == 1 ? t.good : t.weight;
        if (what == 0) {
            t.kind = v;
        } else if (what == 1) {
            t.good = v;
        } else {
            t.weight = v;
        }
        return was;
    }

    public int alter(int i, int what, int v) {
        return has(i) && fits(what, v) ? set(day.things.get(i), what, v) : BAD;
    }

    public int mood(int v) {
        int was = day.mood;
        day.mood = in(v, 0, 99) ? v : was;
        return in(v, 0, 99) ? was : BAD;
    }

    public int tire(int v) {
        int was = day.tire;
        day.tire = in(v, 0, 9) ? v : was;
        return in(v, 0, 9) ? was : BAD;
    }

    public int pack(int kind, int good, int weight) {
        if (!fits(0, kind) || !fits(1, good) || !fits(2, weight)) {
            return BAD;
        }
        if (!day.allIn()) {
            return STATE;
        }
        if (day.things.size() == 7) {
            return FULL;
        }
        day.things.add(new Thing(kind, good, weight));
        return day.things.size();
    }

    public int strap() {
        return day.strap();
    }

    public int lift() {
        if (day.things.isEmpty() || !day.allIn()) {
            return STATE;
        }
        day.things.remove(day.things.size() - 1);
        return day.things.size();
    }

    public int hours(int n) {
        return !in(n, 0, 30) ? BAD : day.hour + n >= 1000 ? FULL : day.hours(n).mood;
    }

    private int moodAt(int n) {
        return day.copy().hours(n).mood;
    }

    public int runs(int n, int what) {
        if (!in(n, 0, 60) || !in(what, 0, 4)) {
            return BAD;
        }
        int most = -1, least = 1000, zero = NONE;
        for (int k = n; k >= 0; k--) {
            int m = moodAt(k);
            most = Math.max(most, m);
            least = Math.min(least, m);
            zero = m == 0 ? k : zero;
        }
        return List.of(moodAt(n), most, least, day.copy().hours(n).bits(t -> t.where == Where.OUT), zero).get(what);
    }

    public int gone(int i) {
        if (!has(i)) {
            return BAD;
        }
        if (day.things.get(i).where == Where.GONE) {
            return STATE;
        }
        int n = 1;
        while (day.copy().hours(n).things.get(i).where != Where.GONE) {
            n++;
        }
        return n;
    }

    public int glad(int v) {
        if (!in(v, 0, 99)) {
            return BAD;
        }
        for (int n = 0; n <= 60; n++) {
            if (moodAt(n) >= v) {
                return n;
            }
        }
        return NONE;
    }

    private static void rows(int n, List<Integer> begun, List<List<Integer>> all) {
        if (begun.size() == n) {
            all.add(List.copyOf(begun));
        }
        for (int i = 0; i < n; i++) {
            if (!begun.contains(i)) {
                begun.add(i);
                rows(n, begun, all);
                begun.remove(begun.size() - 1);
            }
        }
    }

    public int order(int what) {
        if (what != 0 && !in(what, 10, 14)) {
            return BAD;
        }
        if (day.things.size() > 5 || !day.allIn()) {
            return STATE;
        }
        List<List<Integer>> all = new ArrayList<>();
        rows(day.things.size(), new ArrayList<>(), all);
        int best = -1;
        List<Integer> bestRow = List.of();
        for (List<Integer> row : all) {
            Day d = day.copy();
            d.things.clear();
            row.forEach(i -> d.things.add(day.things.get(i).copy()));
            if (d.hours(10).mood > best) {
                best = d.mood;
                bestRow = row;
            }
        }
        return what == 0 ? best : what - 10 < bestRow.size() ? bestRow.get(what - 10) : NONE;
    }

    /** The first of these changes by which MOOD is greatest behind n HOURS and greater than as it is. */
    private int better(int n, int what, Map<Integer, Consumer<List<Thing>>> changes) {
        if (!in(n, 0, 60) || !in(what, 0, 1)) {
            return BAD;
        }
        if (!day.allIn()) {
            return STATE;
        }
        int best = changes.values().stream().mapToInt(c -> changed(n, c)).max().orElse(-1);
        if (best <= moodAt(n)) {
            return NONE;
        }
        int first = changes.keySet().stream().filter(k -> changed(n, changes.get(k)) == best)
                .mapToInt(k -> k).min().orElse(NONE);
        return what == 0 ? first : best;
    }

    private int changed(int n, Consumer<List<Thing>> change) {
        Day d = day.copy();
        change.accept(d.things);
        return d.hours(n).mood;
    }

    public int leave(int n, int what) {
        Map<Integer, Consumer<List<Thing>>> changes = new HashMap<>();
        for (int i = 0; i < day.things.size(); i++) {
            int at = i;
            changes.put(i, l -> l.remove(at));
        }
        return better(n, what, changes);
    }

    public int top(int n, int what) {
        Map<Integer, Consumer<List<Thing>>> changes = new HashMap<>();
        for (int i = 0; i < day.things.size(); i++) {
            int at = i;
            changes.put(i, l -> l.add(l.remove(at)));
        }
        return better(n, what, changes);
    }

    public int swap(int n, int what) {
        Map<Integer, Consumer<List<Thing>>> changes = new HashMap<>();
        for (int i = 0; i < day.things.size(); i++) {
            for (int j = i + 1; j < day.things.size(); j++) {
                int a = i, b = j;
                changes.put(10 * i + j, l -> java.util.Collections.swap(l, a, b));
            }
        }
        return better(n, what, changes);
    }

    private int moodIf(int i, int what, int v, int n) {
        return changed(n, l -> set(l.get(i), what, v));
    }

    public int need(int i, int n, int v) {
        if (!has(i) || !in(n, 0, 60) || !in(v, 0, 99)) {
            return BAD;
        }
        int need = NONE;
        for (int g = 9; g >= 0; g--) {
            need = moodIf(i, 1, g, n) >= v ? g : need;
        }
        return need;
    }

    public int kind(int i, int n, int what) {
        if (!has(i) || !in(n, 0, 60) || !in(what, 0, 1)) {
            return BAD;
        }
        int best = 3;
        for (int k = 3; k >= 0; k--) {
            best = moodIf(i, 0, k, n) >= moodIf(i, 0, best, n) ? k : best;
        }
        return what == 0 ? best : moodIf(i, 0, best, n);
    }

    public int bear(int n, int v) {
        if (!in(n, 0, 60) || !in(v, 0, 99)) {
            return BAD;
        }
        int bear = NONE;
        for (int t = 0; t <= 9; t++) {
            Day d = day.copy();
            d.tire = t;
            bear = d.hours(n).mood >= v ? t : bear;
        }
        return bear;
    }

    /** The worth of all ways, summed, out of 10 to the n. */
    private static BigInteger lids(Day d, int v, int n, IntUnaryOperator worth) {
        if (n == 0) {
            return BigInteger.valueOf(worth.applyAsInt(d.mood));
        }
        Day on = d.copy(), off = d.copy();
        on.hour(true);
        off.hour(false);
        return lids(on, v, n - 1, worth).multiply(BigInteger.valueOf(v))
                .add(lids(off, v, n - 1, worth).multiply(BigInteger.valueOf(10 - v)));
    }

    private static long part(BigInteger up, int n, int what) {
        BigInteger down = BigInteger.TEN.pow(n);
        BigInteger shared = up.gcd(down);
        return (what == 0 ? up : down).divide(shared).longValueExact();
    }

    public long luck(int v, int n, int w, int what) {
        boolean bad = !in(v, 0, 10) || !in(n, 0, 8) || !in(w, 0, 99) || !in(what, 0, 1);
        return bad ? BAD : part(lids(day, v, n, m -> m >= w ? 1 : 0), n, what);
    }

    public long mean(int v, int n, int what) {
        boolean bad = !in(v, 0, 10) || !in(n, 0, 8) || !in(what, 0, 1);
        return bad ? BAD : part(lids(day, v, n, m -> m), n, what);
    }

    public int see(int n, int v) {
        if (!in(n, 0, 20) || !in(v, 0, 99)) {
            return BAD;
        }
        if (day.seen.size() == 6) {
            return FULL;
        }
        day.seen.add(List.of(n, v));
        return day.seen.size();
    }

    public int forget(int n) {
        if (!in(n, 0, day.seen.size())) {
            return BAD;
        }
        int were = day.seen.size();
        day.seen = new ArrayList<>(day.seen.subList(0, n));
        return were;
    }

    private List<Integer> asSeen(int i, int what, int most) {
        List<Integer> list = new ArrayList<>();
        for (int v = 0; v <= most; v++) {
            int x = v;
            if (day.seen.stream().allMatch(s -> moodIf(i, what, x, s.get(0)) == s.get(1))) {
                list.add(v);
            }
        }
        return list;
    }

    public int kinds(int i) {
        return has(i) ? asSeen(i, 0, 3).stream().mapToInt(v -> 1 << v).sum() : BAD;
    }

    public int goods(int i) {
        return has(i) ? asSeen(i, 1, 9).stream().mapToInt(v -> 1 << v).sum() : BAD;
    }

    public int ask(int i, int what) {
        if (!has(i) || !in(what, 0, 1)) {
            return BAD;
        }
        List<Integer> may = asSeen(i, 1, 9);
        int fewest = may.size(), when = NONE;
        for (int n = 0; n <= 20; n++) {
            Map<Integer, Integer> by = new HashMap<>();
            for (int g : may) {
                by.merge(moodIf(i, 1, g, n), 1, Integer::sum);
            }
            int worst = by.values().stream().mapToInt(c -> c).max().orElse(0);
            if (worst < fewest) {
                fewest = worst;
                when = n;
            }
        }
        return when == NONE || what == 0 ? when : fewest;
    }

    public int drift(int seed, int n, int what) {
        if (!in(n, 1, 60) || !in(what, 0, 1)) {
            return BAD;
        }
        if (day.things.isEmpty()) {
            return STATE;
        }
        Day d = day.copy();
        BigInteger s = BigInteger.valueOf(seed);
        for (int k = 0; k < n; k++) {
            s = BigInteger.valueOf(s.multiply(BigInteger.valueOf(1103515245)).add(BigInteger.valueOf(12345)).intValue());
            int got = 0;
            for (int bit = 16; bit <= 30; bit++) {
                got += s.testBit(bit) ? 1 << bit - 16 : 0;
            }
            d.things.get(got % d.things.size()).good = got / 8 % 10;
            if (got / 128 % 4 == 0) {
                d.strap();
            }
            d.hour(false);
        }
        return what == 0 ? d.mood : d.bits(t -> t.where == Where.OUT);
    }

    public int keep(int k) {
        if (!in(k, 0, 1)) {
            return BAD;
        }
        int was = images[k] == null ? 0 : 1;
        images[k] = day.copy();
        return was;
    }

    public int back(int k) {
        if (!in(k, 0, 1)) {
            return BAD;
        }
        if (images[k] == null) {
            return STATE;
        }
        day = images[k].copy();
        return day.hour;
    }

    public int sheet(int k, int lane, int n) {
        if (!in(k, 0, 3) || !in(lane, 0, 2) || n > 40) {
            return BAD;
        }
        try {
            sheets[k] = lane == 0 ? new byte[n] : lane == 1 ? new short[n] : new int[n];
            return 1;
        } catch (NegativeArraySizeException e) {
            return -10 - 4;
        }
    }

    public int lay(int k, int i, int v) {
        if (!in(k, 0, 3)) {
            return BAD;
        }
        try {
            if (sheets[k] instanceof byte[] row) {
                row[i] = (byte) v;
            } else if (sheets[k] instanceof short[] row) {
                row[i] = (short) v;
            } else {
                ((int[]) sheets[k])[i] = v;
            }
            return 1;
        } catch (NullPointerException e) {
            return -10 - 1;
        } catch (ArrayIndexOutOfBoundsException e) {
            return -10 - 2;
        }
    }

    private int cell(int k, int lane, int i) {
        Object row = sheets[k];
        return lane == 0 ? ((byte[]) row)[i] : lane == 1 ? ((short[]) row)[i] : ((int[]) row)[i];
    }

    public int read(int k, int lane, int f, int n) {
        if (!in(k, 0, 3) || !in(lane, 0, 2) || !in(n, 0, 13)) {
            return BAD;
        }
        Day was = day.copy();
        int came = 0, found = 0;
        try {
            for (; came < n; came++) {
                int kind = cell(k, lane, f + 3 * came);
                int good = cell(k, lane, f + 3 * came + 1);
                int weight = cell(k, lane, f + 3 * came + 2);
                if (pack(kind, good, weight) < 0) {
                    day = was;
                    return -20 - came;
                }
            }
        } catch (NullPointerException e) {
            found = 1;
        } catch (ArrayIndexOutOfBoundsException e) {
            found = 2;
        } catch (ClassCastException e) {
            found = 3;
        }
        torn = found;
        return came;
    }

    public int torn() {
        return torn;
    }

    public int count(int what) {
        int made = (images[0] == null ? 0 : 1) + (images[1] == null ? 0 : 1);
        int cells = sheets[0] == null ? NONE : java.lang.reflect.Array.getLength(sheets[0]);
        int good = day.things.stream().mapToInt(t -> t.good).sum();
        int weight = day.things.stream().mapToInt(t -> t.weight).sum();
        return in(what, 0, 5) ? List.of(day.seen.size(), made, tape.length(), cells, good, weight).get(what) : BAD;
    }
}
