/** Hours with the lid on; promises 25 and 26, and how fractions are told. */
final class EdgeOdds {
    private static final String ONE = "told 'plain 9 1;mood 10;tire 1;'\n";

    private EdgeOdds() {
    }

    static void all(Edge e) {
        fractions(e);
        luck(e);
        luckRefused(e);
        mean(e);
    }

    private static String luck(int v, int n, int w, long up, long down) {
        String call = "luck(" + v + ", " + n + ", " + w + ", ";
        return call + "0) = " + up + "\n" + call + "1) = " + down + "\n";
    }

    private static String mean(int v, int n, long up, long down) {
        String call = "mean(" + v + ", " + n + ", ";
        return call + "0) = " + up + "\n" + call + "1) = " + down + "\n";
    }

    private static void fractions(Edge e) {
        e.says(0, "Fractions are in lowest terms, the denominator above 0 (0 is 0 by 1).");
        e.run(ONE + luck(10, 1, 10, 0, 1) + luck(0, 1, 10, 1, 1) + luck(10, 8, 99, 0, 1) + luck(0, 8, 0, 1, 1)
                + luck(5, 1, 10, 1, 2) + luck(1, 1, 10, 9, 10) + luck(2, 1, 10, 4, 5) + luck(3, 1, 10, 7, 10)
                + luck(4, 1, 10, 3, 5) + luck(6, 1, 10, 2, 5) + luck(7, 1, 10, 3, 10) + luck(8, 1, 10, 1, 5) + luck(9, 1, 10, 1, 10));
        e.run("mood(0)\n" + mean(5, 8, 0, 1) + mean(0, 0, 0, 1) + luck(5, 8, 1, 0, 1));
        e.run("mood(99)\ntire(0)\n" + mean(5, 8, 99, 1) + mean(10, 8, 99, 1) + luck(5, 8, 99, 1, 1));
    }

    private static void luck(Edge e) {
        e.says(25, "In each of n HOURS (0 to 8) the lid is on by v out of ten (0 to 10), by itself "
                + "(nothing is taken OUT in it, all else goes as it does): that MOOD is w (0 to 99) or more behind them: 0, 1.");
        // Behind one HOUR 9 with the lid on, 18 without.
        e.run(ONE + luck(5, 0, 10, 1, 1) + luck(5, 0, 11, 0, 1) + luck(5, 0, 0, 1, 1) + luck(5, 0, 99, 0, 1)
                + luck(5, 1, 9, 1, 1) + luck(5, 1, 10, 1, 2) + luck(5, 1, 18, 1, 2) + luck(5, 1, 19, 0, 1)
                + luck(0, 1, 18, 1, 1) + luck(0, 1, 19, 0, 1) + luck(10, 1, 9, 1, 1) + luck(10, 1, 10, 0, 1));
        // Behind two: 10 with the lid on in both, 19 in the first alone, 28 else.
        e.run("told 'plain 9 1;mood 10;tire 0;'\n" + luck(5, 2, 10, 1, 1) + luck(5, 2, 11, 3, 4) + luck(5, 2, 19, 3, 4)
                + luck(5, 2, 20, 1, 2) + luck(5, 2, 28, 1, 2) + luck(5, 2, 29, 0, 1) + luck(3, 2, 19, 91, 100) + luck(3, 2, 28, 7, 10)
                + luck(7, 2, 19, 51, 100) + luck(7, 2, 28, 3, 10) + "rules = 1 0 10 0 1 0");
        // In eight HOURS it is taken OUT, but for eight lids.
        e.run("told 'plain 1 1;mood 0;tire 0;'\n" + luck(1, 8, 1, 99999999, 100000000) + luck(9, 8, 1, 56953279, 100000000)
                + luck(2, 8, 1, 390624, 390625) + luck(5, 8, 1, 255, 256) + luck(10, 8, 1, 0, 1) + luck(0, 8, 1, 1, 1)
                + luck(10, 8, 0, 1, 1) + luck(3, 7, 1, 9997813, 10000000));
        // One that is OUT already cheers under the lid, goes, and TIRE is felt.
        e.run(ONE + "hours(1) = 18\n" + luck(10, 1, 26, 1, 1) + luck(10, 1, 27, 0, 1) + luck(10, 2, 34, 1, 1) + luck(10, 2, 35, 0, 1)
                + luck(10, 3, 33, 1, 1) + luck(10, 3, 34, 0, 1) + luck(0, 3, 33, 1, 1));
        e.run("mood(5)\n" + luck(4, 5, 0, 1, 1) + luck(4, 5, 1, 0, 1) + luck(4, 4, 1, 1, 1) + luck(4, 8, 0, 1, 1));
    }

    private static void luckRefused(Edge e) {
        e.says(25, "BAD.");
        e.run(ONE + """
                luck(-1, 1, 1, 0) = BAD
                luck(11, 1, 1, 0) = BAD
                luck(1, -1, 1, 0) = BAD
                luck(1, 9, 1, 0) = BAD
                luck(1, 1, -1, 0) = BAD
                luck(1, 1, 100, 0) = BAD
                luck(1, 1, 1, -1) = BAD
                luck(1, 1, 1, 2) = BAD
                luck(LEAST, LEAST, LEAST, LEAST) = BAD
                luck(MOST, MOST, MOST, MOST) = BAD
                luck(1, MOST, 1, 0) = BAD
                luck(1, 32, 1, 0) = BAD
                luck(1, 31, 1, 0) = BAD
                bounds luck(0..10, 1, 1, 0)
                bounds luck(1, 0..8, 1, 0)
                bounds luck(1, 1, 0..99, 0)
                bounds luck(1, 1, 1, 0..1)
                """);
    }

    private static void mean(Edge e) {
        e.says(26, "Likewise, the mean of MOOD behind them: 0, 1. BAD.");
        e.run(ONE + mean(5, 0, 10, 1) + mean(10, 0, 10, 1) + mean(0, 1, 18, 1) + mean(10, 1, 9, 1) + mean(5, 1, 27, 2)
                + mean(1, 1, 171, 10) + mean(9, 1, 99, 10) + mean(2, 1, 81, 5) + """
                mean(-1, 1, 0) = BAD
                mean(11, 1, 0) = BAD
                mean(1, -1, 0) = BAD
                mean(1, 9, 0) = BAD
                mean(1, 1, -1) = BAD
                mean(1, 1, 2) = BAD
                mean(LEAST, LEAST, LEAST) = BAD
                mean(MOST, MOST, MOST) = BAD
                mean(1, 32, 0) = BAD
                bounds mean(0..10, 1, 0)
                bounds mean(1, 0..8, 0)
                bounds mean(1, 1, 0..1)
                rules = 1 0 10 1 1 0
                """);
        // 3 more, but 2, 1 and 0 where it comes OUT in the last HOUR but one, in the last, not at all:
        // 90, 9 and 1 out of 10 to the 8th. The numerator is above what an int may hold.
        e.run("told 'plain 1 1;mood 96;tire 0;'\n" + mean(1, 8, 9899999889L, 100000000L) + mean(0, 8, 99, 1) + mean(10, 8, 96, 1));
        e.run("mood(8)\n" + mean(5, 8, 0, 1) + mean(5, 7, 1, 1));
    }
}
