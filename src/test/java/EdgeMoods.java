/** From moods, and by a seed; promises 27 to 32. */
final class EdgeMoods {
    // Behind 1 HOUR as plain 35, glass 40, shower 25, view 41; behind 20: 45, 60, 5, 96.
    private static final String ONE = "told 'plain 5 1;mood 30;tire 0;'\n";

    private EdgeMoods() {
    }

    static void all(Edge e) {
        seen(e);
        see(e);
        forget(e);
        kinds(e);
        goods(e);
        ask(e);
        askNone(e);
        drift(e);
        driftRefused(e);
    }

    private static void seen(Edge e) {
        e.says(0, "SEEN (6): behind n HOURS (0 to 20) from now on MOOD is v.");
        e.run(ONE + """
                see(0, 30) = 1
                kinds(0) = 15
                goods(0) = 1023
                see(20, 45) = 2
                kinds(0) = 1
                goods(0) = 32
                see(1, 35) = 3
                see(1, 35) = 4
                see(2, 40) = 5
                see(3, 45) = 6
                kinds(0) = 1
                goods(0) = 32
                see(4, 45) = FULL
                count(0) = 6
                mood(31)
                kinds(0) = 0
                goods(0) = 0
                """);
        // From now on: what was SEEN is held against what would be now.
        e.run(ONE + """
                see(0, 35) = 1
                kinds(0) = 0
                hours(1) = 35
                kinds(0) = 15
                """);
    }

    private static void see(Edge e) {
        e.says(27, "SEEN: behind n HOURS (0 to 20) MOOD is v (0 to 99): how many are. BAD; FULL.");
        e.run("""
                see(-1, 0) = BAD
                see(21, 0) = BAD
                see(0, -1) = BAD
                see(0, 100) = BAD
                see(LEAST, 0) = BAD
                see(MOST, 0) = BAD
                see(0, LEAST) = BAD
                see(0, MOST) = BAD
                count(0) = 0
                see(0, 0) = 1
                see(20, 99) = 2
                see(0, 99) = 3
                see(20, 0) = 4
                see(1, 98) = 5
                bounds see(0..20, 1)
                bounds see(1, 0..99)
                see(19, 1) = 6
                see(0, 0) = FULL
                see(20, 99) = FULL
                see(21, 0) = BAD
                see(0, 100) = BAD
                see(-1, 0) = BAD
                count(0) = 6
                forget(5) = 6
                see(7, 7) = 6
                see(7, 7) = FULL
                """);
    }

    private static void forget(Edge e) {
        e.says(28, "SEEN are the first n alone: how many there were. BAD.");
        e.run(ONE + """
                forget(0) = 0
                forget(1) = BAD
                forget(-1) = BAD
                see(1, 35)
                see(1, 36)
                forget(3) = BAD
                forget(7) = BAD
                forget(LEAST) = BAD
                forget(MOST) = BAD
                goods(0) = 0
                forget(2) = 2
                goods(0) = 0
                forget(1) = 2
                goods(0) = 32
                forget(2) = BAD
                count(0) = 1
                forget(1) = 1
                forget(0) = 1
                count(0) = 0
                goods(0) = 1023
                forget(0) = 0
                6 * see(1, 35)
                forget(7) = BAD
                bounds forget(0..6)
                forget(6) = 6
                forget(0) = 6
                """);
    }

    private static void kinds(Edge e) {
        e.says(29, "KINDS of a THING (bits) by which, all else as it is, all is as SEEN. BAD.");
        e.run("kinds(0) = BAD\nsee(0, 30)\nkinds(0) = BAD\nkinds(-1) = BAD");
        int[] one = {35, 40, 25, 41};
        int[] twenty = {45, 60, 5, 96};
        for (int kind = 0; kind < 4; kind++) {
            e.run(ONE + "kinds(0) = 15\nsee(1, " + one[kind] + ")\nkinds(0) = " + (1 << kind)
                    + "\nsee(20, " + twenty[kind] + ")\nkinds(0) = " + (1 << kind) + "\nsee(20, 46)\nkinds(0) = 0\nthing(0) = 0 5 1");
        }
        e.run(ONE + """
                see(0, 30)
                kinds(0) = 15
                see(0, 31)
                kinds(0) = 0
                kinds(1) = BAD
                kinds(-1) = BAD
                kinds(LEAST) = BAD
                kinds(MOST) = BAD
                bounds kinds(0..0)
                forget(0)
                hours(3)
                see(1, 45)
                kinds(0) = 15
                """);
        // At the bounds of MOOD several may be.
        e.run(ONE + "mood(99)\nsee(1, 99)\nkinds(0) = 11\nnew\n7 * pack(0, 0, 1)\nkinds(6) = 15\nsee(1, 29)\nkinds(6) = 7\n"
                + "kinds(0) = 15\nkinds(7) = BAD\nbounds kinds(0..6)");
    }

    private static void goods(Edge e) {
        e.says(30, "GOODS of a THING (bits 0 to 9) by which, all else as it is, all is as SEEN. BAD.");
        e.run("goods(0) = BAD\nsee(0, 30)\ngoods(0) = BAD\ngoods(-1) = BAD");
        for (int good = 0; good < 10; good++) {
            e.run(ONE + "goods(0) = 1023\nsee(1, " + (30 + good) + ")\ngoods(0) = " + (1 << good)
                    + "\nsee(20, " + (30 + 3 * good) + ")\ngoods(0) = " + (1 << good) + "\nthing(0) = 0 5 1");
        }
        e.run(ONE + """
                see(1, 29)
                goods(0) = 0
                forget(0)
                see(1, 40)
                goods(0) = 0
                goods(1) = BAD
                goods(-1) = BAD
                goods(LEAST) = BAD
                goods(MOST) = BAD
                bounds goods(0..0)
                forget(0)
                mood(99)
                see(1, 99)
                goods(0) = 1023
                tire(1)
                goods(0) = 1022
                forget(0)
                see(1, 98)
                goods(0) = 1
                forget(0)
                hours(3)
                see(1, 98)
                goods(0) = 1023
                see(1, 99)
                goods(0) = 0
                """);
        // Crushed ones by pairs.
        e.run("pack(0, 5, 1)\npack(0, 0, 9)\ntire(0)\nsee(2, 32)\ngoods(0) = 48\ngoods(1) = 1\nforget(0)\nsee(2, 34)\ngoods(0) = 768\n"
                + "goods(1) = 2\ngoods(2) = BAD\nbounds goods(0..1)");
    }

    private static void ask(Edge e) {
        e.says(31, "Behind how many HOURS (0 to 20) to look what MOOD is, so that of goods() of a THING fewest are left at the worst, "
                + "fewer than now, the first (what 0), how many these are (1).");
        e.run(ONE + """
                ask(0, 0) = 1
                ask(0, 1) = 1
                mood(95)
                ask(0, 0) = 1
                ask(0, 1) = 6
                mood(98)
                ask(0, 0) = 1
                ask(0, 1) = 9
                tire(9)
                ask(0, 0) = 1
                ask(0, 1) = 1
                """);
        // The one at the bottom of seven is taken OUT in the 7th HOUR.
        e.run("tire(0)\n7 * pack(0, 0, 9)\nask(6, 0) = 1\nask(6, 1) = 1\nask(0, 0) = 7\nask(0, 1) = 2\nask(4, 0) = 3\nask(4, 1) = 1");
        // It is taken OUT in the 2nd HOUR; the view lifts MOOD, so that the shower never brings it to 0.
        e.run("told 'shower 5 9;view 9 1;mood 0;tire 0;'\nask(0, 0) = 2\nask(0, 1) = 1");
        // All but one come to 99 at once, and nothing parts them any more.
        e.run("told 'glass 5 1;mood 97;tire 0;'\nask(0, 0) = 1\nask(0, 1) = 9\nsee(1, 99)\ngoods(0) = 1022\nask(0, 0) = NONE");
        // MOOD stays at 0 by all, then by all but one.
        e.run("told 'plain 5 1;mood 0;tire 9;'\nask(0, 0) = NONE\nask(0, 1) = NONE\ntire(8)\nask(0, 0) = 1\nask(0, 1) = 9");
        // An earlier look parts what a later one does not.
        e.run("told 'plain 5 1;plain 0 1;mood 97;tire 0;'\nask(0, 0) = 2\nask(0, 1) = 8\nsee(3, 99)\ngoods(0) = 1022\nask(0, 0) = 2\nask(0, 1) = 8");
    }

    private static void askNone(Edge e) {
        e.says(31, "BAD; NONE: none.");
        e.run("ask(0, 0) = BAD\nask(0, 2) = BAD");
        e.run(ONE + """
                ask(1, 0) = BAD
                ask(-1, 0) = BAD
                ask(0, 2) = BAD
                ask(0, -1) = BAD
                ask(LEAST, 0) = BAD
                ask(MOST, 0) = BAD
                ask(0, LEAST) = BAD
                ask(0, MOST) = BAD
                bounds ask(0..0, 0)
                bounds ask(0, 0..1)
                see(1, 35)
                goods(0) = 32
                ask(0, 0) = NONE
                ask(0, 1) = NONE
                ask(0, 2) = BAD
                see(1, 36)
                goods(0) = 0
                ask(0, 0) = NONE
                ask(0, 1) = NONE
                ask(1, 0) = BAD
                forget(0)
                see(1, 30)
                goods(0) = 1
                ask(0, 0) = NONE
                ask(0, 1) = NONE
                forget(0)
                see(1, 39)
                goods(0) = 512
                ask(0, 0) = NONE
                forget(0)
                mood(99)
                ask(0, 0) = NONE
                mood(0)
                hours(2)
                ask(0, 0) = 1
                ask(0, 1) = 1
                hours(1)
                ask(0, 0) = NONE
                ask(0, 1) = NONE
                ask(0, 2) = BAD
                """);
        // A pair that nothing parts.
        e.run("pack(0, 5, 1)\npack(0, 0, 9)\ntire(0)\nask(0, 0) = 2\nask(0, 1) = 2\nsee(2, 32)\ngoods(0) = 48\nask(0, 0) = NONE\nask(0, 1) = NONE");
        e.run("7 * pack(0, 0, 9)\nask(7, 0) = BAD\nbounds ask(0..6, 0)");
    }

    private static void drift(Edge e) {
        e.says(32, "By itself, n HOURS (1 to 60) by a seed: ahead of each the seed becomes seed times 1103515245 and 12345; "
                + "bits 16 to 30 of it are got: GOOD of THING got modulo THINGS is got by 8 (down) modulo 10 from then on; "
                + "if got by 128 (down) leaves 0 by 4, all are IN again: MOOD in the end (what 0), which are OUT (1; bits).");
        // By seed 0 and LEAST 0 is got, by 1 16838 (GOOD 4), by -1 and MOST 15929 (GOOD 1, all IN again).
        String one = "told 'plain 5 1;mood 50;tire 4;'\n";
        String firsts = """
                drift(0, 1, 0) = 46
                drift(0, 1, 1) = 1
                drift(LEAST, 1, 0) = 46
                drift(1, 1, 0) = 50
                drift(1, 1, 1) = 1
                drift(-1, 1, 0) = 47
                drift(MOST, 1, 0) = 47
                """;
        e.run(one + firsts + "rules = 1 0 50 4 1 0\nthing(0) = 0 5 1");
        // GONE: by 1 it stays so, by 0 and -1 it is IN again, and taken OUT.
        e.run(one + """
                hours(3)
                mood(50)
                drift(0, 1, 1) = 1
                drift(0, 1, 0) = 46
                drift(1, 1, 1) = 0
                drift(1, 1, 0) = 46
                drift(-1, 1, 1) = 1
                drift(-1, 1, 0) = 47
                drift(MOST, 1, 1) = 1
                rules = 1 3 50 4 0 0
                thing(0) = 0 5 1
                """);
        // 16838 modulo 7 is 3: the THING on top is not changed, the 3rd is; 15929 modulo 7 is 4.
        e.run("""
                tire(0)
                7 * pack(0, 0, 9)
                drift(1, 1, 0) = 30
                drift(1, 1, 1) = 64
                hours(3)
                drift(1, 1, 0) = 32
                drift(1, 1, 1) = 24
                drift(-1, 1, 0) = 30
                drift(-1, 1, 1) = 64
                lift()
                """);
        e.run(one + drifts(0) + drifts(1) + drifts(-1) + drifts(Integer.MIN_VALUE) + drifts(Integer.MAX_VALUE) + drifts(77));
    }

    /** A plain THING of weight 1, MOOD 50, TIRE 4, written a second time for that alone. */
    private static String drifts(int seed) {
        StringBuilder lines = new StringBuilder();
        long s = seed;
        int mood = 50;
        int out = 0;
        boolean in = true;
        for (int n = 1; n <= 60; n++) {
            s = (s * 1103515245L + 12345L) & 0xffffffffL;
            long got = s / 65536 % 32768;
            if (got / 128 % 4 == 0) {
                in = true;
                out = 0;
            }
            out = in ? 3 : out;
            in = false;
            mood = Math.max(0, Math.min(99, mood - 4 + (out > 0 ? (int) (got / 8 % 10) : 0)));
            out = Math.max(0, out - 1);
            if (n < 4 || n > 58) {
                String call = "drift(" + seed + ", " + n + ", ";
                lines.append(call).append("0) = ").append(mood).append('\n');
                lines.append(call).append("1) = ").append(out > 0 ? 1 : 0).append('\n');
            }
        }
        return lines.toString();
    }

    private static void driftRefused(Edge e) {
        e.says(32, "BAD; STATE: there are no THINGS.");
        e.run("""
                drift(1, 1, 0) = STATE
                drift(1, 60, 1) = STATE
                drift(1, 0, 0) = BAD
                drift(1, 61, 0) = BAD
                drift(1, 1, 2) = BAD
                drift(1, 1, -1) = BAD
                pack(0, 5, 1)
                drift(1, 0, 0) = BAD
                drift(1, 61, 0) = BAD
                drift(1, -1, 0) = BAD
                drift(1, 1, 2) = BAD
                drift(1, 1, -1) = BAD
                drift(LEAST, LEAST, LEAST) = BAD
                drift(MOST, MOST, MOST) = BAD
                bounds drift(1, 1..60, 0)
                bounds drift(1, 1..60, 1)
                bounds drift(1, 1, 0..1)
                lift()
                drift(1, 1, 0) = STATE
                """);
    }
}
