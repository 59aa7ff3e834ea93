/** What is best: promises 18 to 24. */
final class EdgeBest {
    // The glass is crushed as it lies: 8 an HOUR in place of 18.
    private static final String CRUSHED = "told 'glass 9 1;plain 0 9;mood 0;tire 0;'\n";

    private EdgeBest() {
    }

    static void all(Edge e) {
        order(e);
        orderRefused(e);
        leave(e);
        top(e);
        swap(e);
        need(e);
        kind(e);
        bear(e);
    }

    private static void order(Edge e) {
        e.says(18, "The order of THINGS by which MOOD is greatest behind 10 HOURS, of several the first by its row (as numbers): "
                + "MOOD (what 0); 10 and i: which of them is to lie at place i (NONE: not so many).");
        e.run("""
                order(0) = 20
                order(10) = NONE
                order(14) = NONE
                mood(10)
                order(0) = 0
                mood(11)
                order(0) = 1
                pack(0, 0, 1)
                order(0) = 1
                order(10) = 0
                order(11) = NONE
                order(14) = NONE
                """);
        e.run(CRUSHED + """
                order(0) = 54
                order(10) = 1
                order(11) = 0
                order(12) = NONE
                thing(0) = 1 9 1
                thing(1) = 0 0 9
                pack(0, 0, 9)
                order(0) = 54
                order(10) = 1
                order(11) = 2
                order(12) = 0
                order(13) = NONE
                """);
        // All six HOURS of the last view are within ten.
        e.run("""
                tire(0)
                5 * pack(3, 0, 1)
                order(0) = 60
                order(10) = 0
                order(11) = 1
                order(12) = 2
                order(13) = 3
                order(14) = 4
                order(15) = BAD
                """);
        // MOOD 0 is a MOOD too, and the first row is told by it.
        e.run(CRUSHED + """
                order(10) = 1
                tire(9)
                order(0) = 0
                order(10) = 0
                order(11) = 1
                """);
        everyRow(e, "", 5);
    }

    /** Each of these bears all that are less just so, any other order crushes one: by 120 packings each row is the best once. */
    private static void everyRow(Edge e, String packed, int more) {
        String[] things = {"2, 9)", "2, 6)", "2, 3)", "2, 2)", "2, 1)"};
        if (more == 0) {
            StringBuilder lines = new StringBuilder("mood(0)\ntire(1)\n");
            for (int k = 0; k < 5; k++) {
                lines.append("pack(").append(packed.charAt(k) == '0' ? "0, " : "1, ").append(things[packed.charAt(k) - '0']).append('\n');
            }
            lines.append("order(0) = 44\n");
            for (int place = 0; place < 5; place++) {
                lines.append("order(").append(10 + place).append(") = ").append(packed.indexOf('0' + place)).append('\n');
            }
            e.run(lines.toString());
            return;
        }
        for (char next = '0'; next < '5'; next++) {
            if (packed.indexOf(next) < 0) {
                everyRow(e, packed + next, more - 1);
            }
        }
    }

    private static void orderRefused(Edge e) {
        e.says(18, "BAD (also i above 4); STATE: there are more than 5 THINGS, or one is not IN.");
        e.run("""
                order(15) = BAD
                order(9) = BAD
                order(1) = BAD
                order(-1) = BAD
                order(-10) = BAD
                order(20) = BAD
                order(LEAST) = BAD
                order(MOST) = BAD
                bounds order(10..14)
                4 * pack(0, 1, 1)
                order(14) = NONE
                pack(0, 1, 1)
                order(14) = 4
                order(15) = BAD
                bounds order(10..14)
                pack(0, 1, 1)
                order(0) = STATE
                order(10) = STATE
                order(14) = STATE
                order(15) = BAD
                order(9) = BAD
                pack(0, 1, 1)
                order(0) = STATE
                order(15) = BAD
                lift()
                lift()
                order(14) = 4
                hours(1)
                order(0) = STATE
                order(14) = STATE
                order(15) = BAD
                hours(9)
                order(0) = STATE
                strap()
                order(14) = 4
                """);
        e.run("""
                pack(0, 1, 1)
                hours(1)
                order(14) = STATE
                order(1) = BAD
                hours(2)
                order(14) = STATE
                """);
    }

    private static void leave(Edge e) {
        e.says(19, "The THING that had better be left out so that MOOD is greatest behind n HOURS (0 to 60), greater than as it is, "
                + "of several the first (what 0), that MOOD (1). BAD; STATE: one is not IN; NONE: none.");
        e.run("""
                leave(6, 0) = NONE
                leave(6, 1) = NONE
                leave(61, 0) = BAD
                pack(2, 5, 1)
                leave(0, 0) = NONE
                leave(0, 1) = NONE
                leave(1, 0) = 0
                leave(1, 1) = 29
                leave(29, 0) = 0
                leave(29, 1) = 1
                leave(30, 0) = NONE
                leave(60, 0) = NONE
                tire(0)
                leave(60, 0) = 0
                leave(60, 1) = 30
                leave(61, 0) = BAD
                leave(-1, 0) = BAD
                leave(6, 2) = BAD
                leave(6, -1) = BAD
                leave(LEAST, 0) = BAD
                leave(MOST, 1) = BAD
                leave(6, LEAST) = BAD
                leave(6, MOST) = BAD
                bounds leave(0..60, 0)
                bounds leave(0..60, 1)
                bounds leave(6, 0..1)
                alter(0, 1, 0)
                leave(60, 0) = NONE
                """);
        e.run("""
                tire(0)
                mood(99)
                3 * pack(2, 5, 1)
                leave(1, 0) = NONE
                leave(60, 0) = 0
                leave(60, 1) = 49
                alter(1, 1, 6)
                leave(60, 0) = 1
                alter(2, 1, 7)
                leave(60, 0) = 2
                leave(60, 1) = 44
                hours(1)
                leave(60, 0) = STATE
                leave(0, 0) = STATE
                leave(61, 0) = BAD
                leave(60, 2) = BAD
                hours(9)
                leave(60, 0) = STATE
                strap()
                leave(60, 0) = NONE
                """);
        e.run("""
                6 * pack(0, 0, 9)
                pack(2, 1, 1)
                leave(1, 0) = 6
                leave(1, 1) = 29
                leave(60, 0) = NONE
                """);
        e.run(CRUSHED + """
                leave(4, 0) = 1
                leave(4, 1) = 54
                rules = 2 0 0 0 2 0 1
                """);
        // What is left out weighs no more: the glass bears the 4 that stay.
        e.run("""
                told 'glass 9 4;plain 0 9;plain 0 4;mood 0;tire 0;'
                leave(60, 0) = 1
                leave(60, 1) = 54
                alter(2, 2, 5)
                leave(60, 0) = NONE
                """);
    }

    private static void top(Edge e) {
        e.says(20, "The THING that had better be laid on top (all behind it go down by one) so that MOOD is greatest behind n HOURS (0 to 60), "
                + "greater than as it is, of several the first (what 0), that MOOD (1). BAD; STATE: one is not IN; NONE: none.");
        e.run("top(6, 0) = NONE\ntop(61, 0) = BAD\npack(0, 9, 1)\ntop(6, 0) = NONE\ntop(6, 1) = NONE\ntop(6, 2) = BAD");
        e.run(CRUSHED + """
                top(0, 0) = NONE
                top(0, 1) = NONE
                top(1, 0) = 0
                top(1, 1) = 18
                top(4, 0) = 0
                top(4, 1) = 54
                top(60, 0) = 0
                top(60, 1) = 54
                top(61, 0) = BAD
                top(-1, 0) = BAD
                top(4, 2) = BAD
                top(4, -1) = BAD
                top(LEAST, 0) = BAD
                top(MOST, 0) = BAD
                top(4, LEAST) = BAD
                top(4, MOST) = BAD
                bounds top(0..60, 0)
                bounds top(0..60, 1)
                bounds top(4, 0..1)
                hours(1)
                top(4, 0) = STATE
                top(0, 0) = STATE
                top(61, 0) = BAD
                hours(9)
                top(4, 0) = STATE
                top(4, 2) = BAD
                """);
        e.run("""
                tire(0)
                mood(0)
                pack(0, 9, 1)
                pack(0, 9, 1)
                pack(0, 0, 1)
                top(1, 0) = 0
                top(1, 1) = 9
                alter(0, 1, 8)
                top(1, 0) = 1
                alter(2, 1, 9)
                top(1, 0) = NONE
                """);
        // The second from the top is the last that may be told.
        e.run("""
                tire(0)
                mood(0)
                5 * pack(0, 0, 1)
                pack(1, 9, 1)
                pack(0, 0, 9)
                top(2, 0) = 5
                top(2, 1) = 36
                top(60, 0) = 5
                top(60, 1) = 54
                """);
        // All behind it go down by one: 19 + 19 + 1 by 0, 18 + 18 + 1 by 1.
        e.run("""
                told 'view 9 1;glass 9 9;plain 1 9;tire 0;mood 0;'
                top(2, 0) = 0
                top(2, 1) = 39
                """);
    }

    private static void swap(Edge e) {
        e.says(21, "Two THINGS that are to change places so that MOOD is greatest behind n HOURS (0 to 60), greater than as it is: "
                + "10 times the lesser and the greater, of several the least (what 0), that MOOD (1). BAD; STATE: one is not IN; NONE: by none.");
        e.run("swap(6, 0) = NONE\nswap(61, 0) = BAD\npack(0, 9, 1)\nswap(6, 0) = NONE\nswap(6, 1) = NONE\nswap(6, 2) = BAD");
        e.run("""
                tire(0)
                mood(0)
                pack(0, 9, 1)
                pack(0, 0, 1)
                swap(0, 0) = NONE
                swap(0, 1) = NONE
                swap(1, 0) = 1
                swap(1, 1) = 9
                swap(60, 0) = NONE
                swap(61, 0) = BAD
                swap(-1, 0) = BAD
                swap(1, 2) = BAD
                swap(1, -1) = BAD
                swap(LEAST, 0) = BAD
                swap(MOST, 0) = BAD
                swap(1, LEAST) = BAD
                swap(1, MOST) = BAD
                bounds swap(0..60, 0)
                bounds swap(0..60, 1)
                bounds swap(1, 0..1)
                hours(1)
                swap(1, 0) = STATE
                swap(0, 0) = STATE
                swap(61, 0) = BAD
                hours(9)
                swap(1, 0) = STATE
                swap(1, 2) = BAD
                strap()
                alter(1, 1, 9)
                swap(1, 0) = NONE
                """);
        e.run(CRUSHED + """
                swap(60, 0) = 1
                swap(60, 1) = 54
                """);
        // Their WEIGHTS go with them: changed with the heavy one it is still crushed, by the one on top.
        e.run("""
                told 'plain 9 1;plain 0 9;plain 0 5;mood 0;tire 0;'
                swap(60, 0) = 2
                swap(60, 1) = 27
                top(60, 0) = 0
                top(60, 1) = 27
                leave(60, 0) = NONE
                """);
        e.run("""
                tire(0)
                mood(0)
                7 * pack(0, 0, 9)
                alter(5, 1, 9)
                swap(1, 0) = 56
                swap(1, 1) = 9
                alter(4, 1, 9)
                swap(1, 0) = 46
                alter(0, 1, 9)
                swap(1, 0) = 6
                alter(6, 1, 9)
                swap(1, 0) = NONE
                """);
    }

    private static void need(Edge e) {
        e.says(22, "The least GOOD of a THING by which MOOD is v (0 to 99) or more behind n HOURS (0 to 60). BAD; NONE: by none.");
        e.run("""
                need(0, 0, 0) = BAD
                pack(0, 5, 1)
                mood(10)
                tire(0)
                need(0, 1, 0) = 0
                need(0, 1, 10) = 0
                need(0, 1, 11) = 1
                need(0, 1, 18) = 8
                need(0, 1, 19) = 9
                need(0, 1, 20) = NONE
                need(0, 1, 99) = NONE
                need(0, 0, 10) = 0
                need(0, 0, 11) = NONE
                need(0, 60, 12) = 1
                need(0, 60, 37) = 9
                need(0, 60, 38) = NONE
                need(0, 61, 0) = BAD
                need(0, -1, 0) = BAD
                need(0, 1, 100) = BAD
                need(0, 1, -1) = BAD
                need(1, 1, 0) = BAD
                need(-1, 1, 0) = BAD
                need(0, LEAST, 0) = BAD
                need(0, MOST, 99) = BAD
                need(LEAST, MOST, LEAST) = BAD
                bounds need(0..0, 1, 1)
                bounds need(0, 0..60, 1)
                bounds need(0, 1, 0..99)
                thing(0) = 0 5 1
                alter(0, 0, 2)
                need(0, 1, 10) = 0
                need(0, 1, 11) = NONE
                need(0, 1, 0) = 0
                mood(99)
                need(0, 1, 99) = 0
                hours(5)
                need(0, 1, 74) = 0
                need(0, 1, 75) = NONE
                """);
        e.run("7 * pack(0, 0, 9)\ntire(0)\nneed(6, 1, 39) = 9\nneed(5, 2, 39) = 9\nneed(7, 1, 0) = BAD\nbounds need(0..6, 1, 1)");
    }

    private static void kind(Edge e) {
        e.says(23, "The KIND of a THING by which MOOD is greatest behind n HOURS (0 to 60), of several the first (what 0), that MOOD (1). BAD.");
        e.run("""
                kind(0, 0, 0) = BAD
                pack(2, 9, 1)
                tire(0)
                kind(0, 0, 0) = 0
                kind(0, 0, 1) = 30
                kind(0, 1, 0) = 3
                kind(0, 1, 1) = 49
                kind(0, 60, 0) = 3
                kind(0, 60, 1) = 99
                mood(85)
                kind(0, 1, 0) = 1
                kind(0, 1, 1) = 99
                mood(90)
                kind(0, 1, 0) = 0
                kind(0, 1, 1) = 99
                mood(89)
                kind(0, 1, 0) = 1
                kind(0, 61, 0) = BAD
                kind(0, -1, 0) = BAD
                kind(0, 1, 2) = BAD
                kind(0, 1, -1) = BAD
                kind(1, 1, 0) = BAD
                kind(-1, 1, 0) = BAD
                kind(LEAST, 1, 0) = BAD
                kind(MOST, 1, 0) = BAD
                kind(0, LEAST, 0) = BAD
                kind(0, MOST, 0) = BAD
                kind(0, 1, LEAST) = BAD
                kind(0, 1, MOST) = BAD
                bounds kind(0..0, 1, 0)
                bounds kind(0, 0..60, 0)
                bounds kind(0, 0..60, 1)
                bounds kind(0, 1, 0..1)
                thing(0) = 2 9 1
                hours(6) = 44
                kind(0, 9, 0) = 0
                kind(0, 9, 1) = 44
                """);
        // MOOD 0 is the greatest where there is no other.
        e.run("pack(3, 9, 1)\nmood(0)\ntire(9)\nkind(0, 0, 0) = 0\nkind(0, 0, 1) = 0\nalter(0, 1, 0)\nkind(0, 9, 0) = 0\nkind(0, 9, 1) = 0");
        // One that is OUT stays so for as long as it would have.
        e.run("""
                pack(0, 9, 1)
                tire(0)
                mood(0)
                hours(2) = 18
                kind(0, 60, 0) = 3
                kind(0, 60, 1) = 37
                """);
        e.run("7 * pack(0, 0, 9)\nkind(6, 1, 0) = 3\nkind(6, 1, 1) = 30\nkind(7, 1, 0) = BAD\nbounds kind(0..6, 1, 1)");
    }

    private static void bear(Edge e) {
        e.says(24, "The greatest TIRE by which MOOD is v (0 to 99) or more behind n HOURS (0 to 60). BAD; NONE: by none.");
        e.run("""
                bear(1, 0) = 9
                bear(1, 21) = 9
                bear(1, 22) = 8
                bear(1, 29) = 1
                bear(1, 30) = 0
                bear(1, 31) = NONE
                bear(0, 30) = 9
                bear(0, 31) = NONE
                bear(0, 99) = NONE
                bear(60, 0) = 9
                bear(60, 1) = 0
                bear(60, 30) = 0
                bear(60, 31) = NONE
                bear(61, 0) = BAD
                bear(-1, 0) = BAD
                bear(1, 100) = BAD
                bear(1, -1) = BAD
                bear(LEAST, 0) = BAD
                bear(MOST, 99) = BAD
                bear(0, LEAST) = BAD
                bear(0, MOST) = BAD
                bounds bear(0..60, 1)
                bounds bear(1, 0..99)
                rules = 0 0 30 1
                tire(9)
                bear(1, 30) = 0
                mood(99)
                bear(1, 99) = 0
                bear(11, 0) = 9
                bear(11, 1) = 8
                """);
    }
}
