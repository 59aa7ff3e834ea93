/** THINGS, MOOD, TIRE, what they BEAR and CHEER, how long they LAST; promises 1 and 6 to 13. */
final class EdgeThings {
    private EdgeThings() {
    }

    static void all(Edge e) {
        newObject(e);
        things(e);
        whereabouts(e);
        moodTireHour(e);
        bears(e);
        crushed(e);
        cheers(e);
        lasts(e);
        rule(e);
        thing(e);
        alter(e);
        moodAndTire(e);
        pack(e);
        strap(e);
        lift(e);
    }

    private static void newObject(Edge e) {
        e.says(1, "No THINGS; SHEETS of nothing.");
        e.run("""
                rules = 0 0 30 1 0 0 0
                counts = 0 0 0 NONE 0 0
                thing(0) = BAD BAD BAD BAD BAD BAD BAD
                fault() = 0
                torn() = 0
                lay(0, 0, 1) = -11
                lay(1, 0, 1) = -11
                lay(2, 0, 1) = -11
                lay(3, 0, 1) = -11
                read(0, 0, 0, 1) = 0
                torn() = 1
                read(3, 2, 0, 1) = 0
                torn() = 1
                back(0) = STATE
                back(1) = STATE
                lift() = STATE
                strap() = 0
                drift(1, 1, 0) = STATE
                gone(0) = BAD
                need(0, 1, 1) = BAD
                kind(0, 1, 0) = BAD
                kinds(0) = BAD
                goods(0) = BAD
                ask(0, 0) = BAD
                alter(0, 0, 0) = BAD
                text() = 0
                hours(30) = 0
                """);
    }

    private static void things(Edge e) {
        e.says(0, "THINGS 0 on (7 at most, by order: 0 lies at the bottom), each of a KIND (0 plain, 1 glass, 2 shower, 3 view), "
                + "of a GOOD (0 to 9), of a WEIGHT (1 to 9).");
        e.run("""
                thing(0, 0) = BAD
                pack(0, 0, 1) = 1
                thing(1, 0) = BAD
                pack(1, 9, 9) = 2
                pack(2, 0, 9) = 3
                pack(3, 9, 1) = 4
                pack(3, 1, 2) = 5
                pack(2, 2, 3) = 6
                thing(6, 0) = BAD
                pack(1, 3, 4) = 7
                pack(0, 4, 5) = FULL
                rules = 7 0 30 1 7
                thing(0) = 0 0 1 2 28
                thing(1) = 1 9 9 9 19
                thing(2) = 2 0 9 18 10
                thing(3) = 3 9 1 1 9
                thing(4) = 3 1 2 2 7
                thing(5) = 2 2 3 6 4
                thing(6) = 1 3 4 4 0
                thing(7) = BAD
                """);
        e.run("""
                sheet(0, 0, 24)
                lay(0, 2, 1)
                lay(0, 5, 1)
                lay(0, 8, 1)
                lay(0, 11, 1)
                lay(0, 14, 1)
                lay(0, 17, 1)
                lay(0, 20, 1)
                lay(0, 23, 1)
                read(0, 0, 0, 8) = -27
                rules = 0
                read(0, 0, 0, 7) = 7
                rules = 7
                read(0, 0, 0, 1) = -20
                """);
    }

    private static void whereabouts(Edge e) {
        e.says(0, "Each is IN the hamper (at first), OUT for so many HOURS more, or GONE: those IN are the first ones by order, "
                + "as many as are LEFT.");
        e.run("""
                3 * pack(0, 0, 1)
                rules = 3 0 30 1 3 0 0
                hours(1) = 29
                rules = 3 1 29 1 2 4 0
                thing(2, 6) = 2
                thing(1, 6) = 0
                hours(1) = 28
                rules = 3 2 28 1 1 6 0
                thing(2, 6) = 1
                thing(1, 6) = 2
                thing(0, 6) = 0
                hours(1) = 27
                rules = 3 3 27 1 0 3 0
                thing(2, 6) = 0
                gone(2) = STATE
                gone(1) = 1
                gone(0) = 2
                hours(1) = 26
                rules = 3 4 26 1 0 1 0
                hours(1) = 25
                rules = 3 5 25 1 0 0 0
                gone(0) = STATE
                hours(1) = 24
                rules = 3 6 24 1 0 0 0
                strap() = 3
                rules = 3 6 24 1 3 0 0
                """);
    }

    private static void moodTireHour(Edge e) {
        e.says(0, "MOOD (0 to 99; 30 at first), TIRE (0 to 9; 1 at first), HOUR (0 at first).");
        e.run("""
                rules = 0 0 30 1
                mood(0) = 30
                rules = 0 0 0 1
                mood(99) = 0
                rules = 0 0 99 1
                mood(100) = BAD
                mood(-1) = BAD
                tire(0) = 1
                rules = 0 0 99 0
                tire(9) = 0
                rules = 0 0 99 9
                tire(10) = BAD
                tire(-1) = BAD
                hours(11) = 0
                rules = 0 11 0 9
                text '' = 0 0
                rules = 0 0 30 1
                """);
    }

    private static void bears(Edge e) {
        e.says(0, "BEARS by KIND: plain twice its WEIGHT; glass half of that of a plain one; shower as a plain one; view as a glass.");
        e.run("""
                pack(0, 0, 1)
                thing(0, 3) = 2
                alter(0, 2, 9)
                thing(0, 3) = 18
                alter(0, 0, 1)
                thing(0, 3) = 9
                alter(0, 2, 1)
                thing(0, 3) = 1
                alter(0, 0, 2)
                thing(0, 3) = 2
                alter(0, 2, 9)
                thing(0, 3) = 18
                alter(0, 0, 3)
                thing(0, 3) = 9
                alter(0, 2, 1)
                thing(0, 3) = 1
                alter(0, 2, 5)
                thing(0, 3) = 5
                """);
    }

    private static void crushed(Edge e) {
        e.says(0, "A THING is CRUSHED, if WEIGHTS of all THINGS behind it by order (IN, OUT or GONE), summed, are more than it BEARS.");
        // As much as it bears, and one more: plain and shower of 2, glass and view of 4.
        int[] weights = {2, 4, 2, 4};
        int[] whole = {29, 38, 11, 39};
        int[] half = {24, 28, 16, 29};
        for (int kind = 0; kind < 4; kind++) {
            e.run("pack(" + kind + ", 9, " + weights[kind] + ")\npack(0, 9, 4)\n"
                    + "rule(6) = 0\nthing(0, 3) = 4\nthing(0, 4) = 4\nthing(0, 5) = " + whole[kind]
                    + "\nalter(1, 2, 3)\nrule(6) = 0\nalter(1, 2, 5)\nrule(6) = 1\nthing(0, 4) = 5\nthing(0, 5) = " + half[kind]
                    + "\nalter(1, 2, 1)\npack(0, 1, 3)\nrule(6) = 2\npack(0, 1, 1)\nrule(6) = 3");
        }
        // Behind it they weigh as much when they are OUT and when they are GONE.
        e.run("""
                pack(0, 9, 1)
                pack(0, 9, 1)
                pack(0, 9, 2)
                rules = 3 0 30 1 3 0 1
                hours(1) = 38
                rules = 3 1 38 1 2 4 1
                hours(1) = 55
                hours(1) = 76
                rules = 3 3 76 1 0 3 1
                thing(0, 4) = 3
                thing(0, 5) = 24
                hours(30)
                rule(6) = 1
                alter(2, 2, 1) = 2
                rule(6) = 0
                thing(0, 5) = 29
                """);
        e.run("""
                7 * pack(0, 9, 9)
                rule(6) = 15
                thing(0, 4) = 54
                thing(3, 4) = 27
                thing(4, 4) = 18
                thing(6, 4) = 0
                new
                7 * pack(1, 9, 9)
                rule(6) = 31
                new
                6 * pack(3, 9, 1)
                pack(3, 9, 9)
                rule(6) = 63
                new
                pack(3, 9, 1)
                rule(6) = 0
                """);
    }

    private static void cheers(Edge e) {
        e.says(0, "CHEERS by KIND: plain GOOD (half of it, down, if it is CRUSHED); glass twice that of a plain one; "
                + "shower as much less than nothing as a plain one has; view 1 more than a glass.");
        int[] goods = {0, 1, 2, 8, 9};
        int[][] whole = {{20, 21, 22, 28, 29}, {20, 22, 24, 36, 38}, {20, 19, 18, 12, 11}, {21, 23, 25, 37, 39}};
        int[][] half = {{20, 20, 21, 24, 24}, {20, 20, 22, 28, 28}, {20, 20, 19, 16, 16}, {21, 21, 23, 29, 29}};
        for (int kind = 0; kind < 4; kind++) {
            for (int k = 0; k < goods.length; k++) {
                String pack = "pack(" + kind + ", " + goods[k] + ", ";
                e.run(pack + "1)\n" + pack + "9)\nrule(6) = 1\nthing(0, 5) = " + half[kind][k]
                        + "\nthing(1, 5) = " + whole[kind][k]
                        + "\ntire(0)\nmood(40)\nhours(1) = " + (20 + whole[kind][k]));
                e.run(pack + "1)\n" + pack + "9)\ntire(0)\nhours(3)\nmood(40)\nstrap()\nlift()\npack(0, 0, 9)\n"
                        + "hours(1) = 40\nhours(1) = " + (20 + half[kind][k]));
            }
        }
    }

    private static void lasts(Edge e) {
        e.says(0, "LASTS by KIND: plain 3 HOURS; glass as a plain one; shower 2 more than a plain one; view twice that of a glass.");
        int[] lasts = {3, 3, 5, 6};
        for (int kind = 0; kind < 4; kind++) {
            int n = lasts[kind];
            e.run("pack(" + kind + ", 0, 1)\ngone(0) = " + n + "\nruns(" + (n - 1) + ", 3) = 1\nruns(" + n + ", 3) = 0\n"
                    + "hours(1)\nthing(0, 6) = " + (n - 1) + "\nhours(" + (n - 2) + ")\nrules = 1 " + (n - 1)
                    + "\nrule(5) = 1\nthing(0, 6) = 1\ngone(0) = 1\nhours(1)\nrule(5) = 0\nthing(0, 6) = 0\ngone(0) = STATE");
        }
    }

    private static void rule(Edge e) {
        e.says(6, "0 THINGS, 1 HOUR, 2 MOOD, 3 TIRE, 4 how many are LEFT, 5 which are OUT (bits), 6 which are CRUSHED (bits). BAD.");
        e.run("""
                rules = 0 0 30 1 0 0 0
                rule(7) = BAD
                rule(-1) = BAD
                rule(LEAST) = BAD
                rule(MOST) = BAD
                rule(256) = BAD
                bounds rule(0..6)
                """);
        e.run("""
                6 * pack(3, 0, 1)
                pack(3, 0, 9)
                tire(9)
                mood(99)
                rules = 7 0 99 9 7 0 63
                hours(6) = 66
                rules = 7 6 66 9 1 62 63
                hours(1) = 63
                rules = 7 7 63 9 0 31 63
                hours(5) = 33
                rules = 7 12 33 9 0 0 63
                rule(7) = BAD
                bounds rule(0..6)
                """);
        e.run("""
                33 * hours(30)
                hours(9)
                rules = 0 999 0 1 0 0 0
                """);
    }

    private static void thing(Edge e) {
        e.says(7, "Of a THING: 0 KIND, 1 GOOD, 2 WEIGHT, 3 what it BEARS, 4 WEIGHTS of all behind it, 5 20 more than what it CHEERS, "
                + "6 for how many HOURS more it is OUT (0: it is not). BAD.");
        e.run("""
                thing(0) = BAD BAD BAD BAD BAD BAD BAD
                thing(-1, 0) = BAD
                pack(2, 9, 9)
                thing(0) = 2 9 9 18 0 11 0
                thing(1, 0) = BAD
                thing(-1, 0) = BAD
                thing(0, 7) = BAD
                thing(0, -1) = BAD
                thing(1, 7) = BAD
                thing(LEAST, 0) = BAD
                thing(MOST, 0) = BAD
                thing(0, LEAST) = BAD
                thing(0, MOST) = BAD
                thing(LEAST, MOST) = BAD
                pack(3, 9, 1)
                thing(1) = 3 9 1 1 0 39 0
                thing(0) = 2 9 9 18 1 11 0
                hours(1)
                thing(1, 6) = 5
                thing(0, 6) = 0
                hours(5)
                thing(1, 6) = 0
                thing(0, 6) = 0
                hours(20)
                thing(0) = 2 9 9 18 1 11 0
                thing(1) = 3 9 1 1 0 39 0
                bounds thing(0..1, 0)
                bounds thing(0..1, 6)
                bounds thing(0, 0..6)
                bounds thing(1, 0..6)
                """);
        e.run("""
                7 * pack(0, 1, 1)
                thing(6) = 0 1 1 2 0 21 0
                thing(7) = BAD
                bounds thing(0..6, 3)
                """);
    }

    private static void alter(Edge e) {
        e.says(8, "KIND, GOOD, WEIGHT (what 0 to 2) of a THING becomes v: what it was. BAD.");
        e.run("""
                alter(0, 0, 0) = BAD
                pack(1, 5, 5)
                pack(2, 6, 6)
                alter(0, 0, 0) = 1
                alter(0, 0, 3) = 0
                alter(0, 0, 4) = BAD
                alter(0, 0, -1) = BAD
                alter(0, 1, 0) = 5
                alter(0, 1, 9) = 0
                alter(0, 1, 10) = BAD
                alter(0, 1, -1) = BAD
                alter(0, 2, 1) = 5
                alter(0, 2, 9) = 1
                alter(0, 2, 0) = BAD
                alter(0, 2, 10) = BAD
                alter(0, 3, 1) = BAD
                alter(0, -1, 1) = BAD
                alter(2, 0, 1) = BAD
                alter(-1, 0, 1) = BAD
                alter(2, 3, 10) = BAD
                alter(LEAST, LEAST, LEAST) = BAD
                alter(MOST, MOST, MOST) = BAD
                thing(0) = 3 9 9
                thing(1) = 2 6 6
                alter(1, 0, 2) = 2
                alter(1, 1, 0) = 6
                alter(1, 2, 1) = 6
                thing(1) = 2 0 1
                bounds alter(0..1, 0, 1)
                bounds alter(0..1, 1, 1)
                bounds alter(0..1, 2, 1)
                bounds alter(0, 0..2, 1)
                bounds alter(1, 0, 0..3)
                bounds alter(1, 1, 0..9)
                bounds alter(1, 2, 1..9)
                """);
        // OUT and GONE ones too; for how long one is OUT stays as it was.
        e.run("""
                pack(0, 5, 5)
                pack(2, 6, 6)
                hours(1)
                alter(1, 0, 3) = 2
                thing(1, 6) = 4
                hours(4)
                gone(1) = STATE
                alter(1, 1, 9) = 6
                alter(1, 2, 9) = 6
                thing(1) = 3 9 9 9 0 39 0
                thing(0, 4) = 9
                gone(1) = STATE
                alter(1, 1, 10) = BAD
                """);
    }

    private static void moodAndTire(Edge e) {
        e.says(9, "MOOD becomes v: what it was. BAD.");
        e.run("""
                mood(0) = 30
                mood(99) = 0
                mood(98) = 99
                mood(1) = 98
                mood(100) = BAD
                mood(-1) = BAD
                mood(LEAST) = BAD
                mood(MOST) = BAD
                rules = 0 0 1 1
                mood(1) = 1
                bounds mood(0..99)
                """);
        e.says(10, "TIRE becomes v: what it was. BAD.");
        e.run("""
                tire(0) = 1
                tire(9) = 0
                tire(8) = 9
                tire(10) = BAD
                tire(-1) = BAD
                tire(LEAST) = BAD
                tire(MOST) = BAD
                rules = 0 0 30 8
                tire(8) = 8
                hours(1) = 22
                bounds tire(0..9)
                """);
    }

    private static void pack(Edge e) {
        e.says(11, "A THING more, upon all others: how many there are. BAD; STATE: one is not IN; FULL.");
        e.run("""
                pack(-1, 0, 1) = BAD
                pack(4, 0, 1) = BAD
                pack(0, -1, 1) = BAD
                pack(0, 10, 1) = BAD
                pack(0, 0, 0) = BAD
                pack(0, 0, 10) = BAD
                pack(LEAST, 0, 1) = BAD
                pack(0, MOST, 1) = BAD
                pack(0, 0, LEAST) = BAD
                pack(MOST, MOST, MOST) = BAD
                rules = 0 0 30 1 0 0 0
                pack(0, 0, 1) = 1
                pack(3, 9, 9) = 2
                rules = 2 0 30 1 2 0 1
                thing(0) = 0 0 1 2 9 20 0
                thing(1) = 3 9 9 9 0 39 0
                bounds pack(0..3, 0, 1)
                bounds pack(0, 0..9, 1)
                bounds pack(0, 0, 1..9)
                4 * pack(0, 0, 1)
                pack(0, 0, 1) = 7
                pack(0, 0, 1) = FULL
                pack(3, 9, 9) = FULL
                pack(4, 0, 1) = BAD
                pack(0, 10, 1) = BAD
                pack(0, 0, 0) = BAD
                hours(1)
                pack(0, 0, 1) = STATE
                pack(0, 0, 10) = BAD
                hours(20)
                pack(0, 0, 1) = STATE
                strap() = 7
                pack(0, 0, 1) = FULL
                lift() = 6
                pack(1, 2, 3) = 7
                thing(6) = 1 2 3
                """);
        // One OUT, one GONE with others still IN, all GONE.
        e.run("""
                5 * pack(0, 0, 1)
                hours(1)
                pack(0, 0, 1) = STATE
                hours(2)
                rules = 5 3 27 1 2 12
                pack(0, 0, 1) = STATE
                hours(5)
                rules = 5 8 22 1 0 0
                pack(0, 0, 1) = STATE
                pack(-1, 0, 1) = BAD
                strap() = 5
                pack(0, 0, 1) = 6
                rules = 6 8 22 1 6 0
                """);
    }

    private static void strap(Edge e) {
        e.says(12, "All THINGS are IN again: how many were not.");
        e.run("""
                strap() = 0
                pack(0, 0, 1)
                strap() = 0
                hours(1) = 29
                strap() = 1
                rules = 1 1 29 1 1 0 0
                thing(0, 6) = 0
                strap() = 0
                hours(3)
                rules = 1 4 26 1 0 0
                strap() = 1
                gone(0) = 3
                """);
        e.run("""
                7 * pack(0, 0, 1)
                hours(4)
                rules = 7 4 26 1 3 24
                strap() = 4
                rules = 7 4 26 1 7 0
                hours(20)
                rules = 7 24 6 1 0 0
                strap() = 7
                rules = 7 24 6 1 7 0
                gone(0) = 9
                """);
    }

    private static void lift(Edge e) {
        e.says(13, "The THING on top is taken away: how many there are then. STATE: there are none, or one is not IN.");
        e.run("""
                lift() = STATE
                pack(0, 1, 1)
                lift() = 0
                lift() = STATE
                rules = 0 0 30 1 0 0 0
                5 * pack(0, 1, 1)
                pack(1, 2, 3)
                pack(2, 3, 4)
                lift() = 6
                thing(5) = 1 2 3
                thing(6) = BAD
                lift() = 5
                thing(5) = BAD
                rules = 5 0 30 1 5 0 3
                hours(1)
                lift() = STATE
                hours(2)
                rule(5) = 12
                lift() = STATE
                hours(9)
                lift() = STATE
                strap() = 5
                lift() = 4
                pack(3, 3, 3) = 5
                thing(4) = 3 3 3
                """);
    }
}
