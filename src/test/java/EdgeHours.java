/** AN HOUR, BY HOURS; promises 14 to 17. */
final class EdgeHours {
    // MOOD behind 0 HOURS and on: 10, 5, 4, 9, 14, 15, 15, ..
    private static final String DAY = "told 'plain 6 2;glass 4 1;shower 5 3;mood 10;tire 0;'\n";

    private EdgeHours() {
    }

    static void all(Edge e) {
        takenOut(e);
        moodOfAnHour(e);
        lessAnHour(e);
        byHours(e);
        hours(e);
        runs(e);
        gone(e);
        glad(e);
    }

    private static void takenOut(Edge e) {
        e.says(0, "AN HOUR, in this order: the last of those IN (if any is LEFT) is taken OUT, for as many HOURS as it LASTS.");
        e.run("""
                hours(1) = 29
                rules = 0 1 29 1 0 0
                pack(3, 0, 1)
                pack(2, 0, 1)
                hours(1)
                rules = 2 2 28 1 1 2
                thing(1, 6) = 4
                hours(1)
                rules = 2 3 28 1 0 3
                thing(0, 6) = 5
                thing(1, 6) = 3
                hours(1)
                rules = 2 4 28 1 0 3
                """);
        // What is taken OUT cheers in that HOUR already.
        e.run("""
                pack(0, 9, 1)
                tire(0)
                hours(1) = 39
                """);
    }

    private static void moodOfAnHour(Edge e) {
        e.says(0, "MOOD is more by what all that are OUT CHEER, summed, less TIRE (0 at least, 99 at most).");
        e.run("""
                tire(9)
                mood(10)
                hours(1) = 1
                mood(9)
                hours(1) = 0
                mood(8)
                hours(1) = 0
                hours(1) = 0
                tire(0)
                hours(1) = 0
                mood(99)
                hours(1) = 99
                """);
        e.run("""
                pack(3, 9, 1)
                tire(0)
                mood(79)
                hours(1) = 98
                mood(80)
                hours(1) = 99
                mood(81)
                hours(1) = 99
                mood(99)
                hours(1) = 99
                """);
        e.run("""
                pack(2, 9, 1)
                tire(9)
                mood(19)
                hours(1) = 1
                mood(18)
                hours(1) = 0
                mood(17)
                hours(1) = 0
                """);
        // The bounds are kept at the end alone, not by each THING or by TIRE.
        e.run("""
                pack(2, 9, 9)
                pack(3, 9, 1)
                tire(0)
                hours(1) = 49
                mood(90)
                hours(1) = 99
                mood(5)
                hours(1) = 15
                mood(0)
                hours(1) = 10
                """);
        e.run("""
                pack(3, 9, 9)
                pack(2, 9, 1)
                tire(0)
                hours(1) = 21
                mood(90)
                hours(1) = 99
                mood(5)
                hours(1) = 15
                mood(89)
                hours(1) = 99
                mood(88)
                hours(1) = 98
                """);
        e.run("""
                pack(0, 9, 1)
                tire(9)
                mood(95)
                hours(1) = 95
                mood(0)
                hours(1) = 0
                mood(99)
                hours(1) = 99
                """);
    }

    private static void lessAnHour(Edge e) {
        e.says(0, "Each that is OUT is so for 1 HOUR less: GONE, if that is 0. HOUR is 1 more.");
        e.run("""
                pack(0, 3, 1)
                tire(0)
                thing(0, 6) = 0
                hours(1) = 33
                thing(0, 6) = 2
                rules = 1 1 33 0 0 1
                hours(1) = 36
                thing(0, 6) = 1
                rules = 1 2 36 0 0 1
                gone(0) = 1
                hours(1) = 39
                thing(0, 6) = 0
                rules = 1 3 39 0 0 0
                gone(0) = STATE
                hours(1) = 39
                rules = 1 4 39 0 0 0
                """);
    }

    private static void byHours(Edge e) {
        e.says(0, "BY HOURS: as it would be from now on.");
        e.run(DAY + """
                runs(3, 0) = 9
                hours(1) = 5
                runs(3, 0) = 14
                runs(2, 0) = 9
                glad(9) = 2
                gone(0) = 4
                hours(1) = 4
                runs(2, 0) = 14
                glad(9) = 1
                gone(0) = 3
                rules = 3 2 4 0 1 6
                """);
        // What would be behind HOUR 999 may be asked.
        e.run("""
                33 * hours(30)
                hours(9) = 0
                pack(3, 9, 1)
                hours(1) = FULL
                runs(60, 1) = 99
                runs(60, 0) = 45
                gone(0) = 6
                glad(18) = 1
                rules = 1 999 0 1 1 0
                """);
    }

    private static void hours(Edge e) {
        e.says(14, "n HOURS (0 to 30): MOOD then. BAD; FULL: HOUR would be 1000 or more.");
        e.run(DAY + """
                hours(-1) = BAD
                hours(31) = BAD
                hours(LEAST) = BAD
                hours(MOST) = BAD
                hours(0) = 10
                rules = 3 0 10 0 3 0
                hours(1) = 5
                hours(2) = 9
                hours(30) = 15
                rules = 3 33 15 0 0 0
                bounds hours(0..30)
                """);
        e.run("""
                mood(99)
                hours(30) = 69
                hours(29) = 40
                rules = 0 59 40
                """);
        e.run("""
                32 * hours(30)
                hours(9)
                rules = 0 969
                keep(0)
                hours(30) = 0
                rules = 0 999
                hours(1) = FULL
                hours(30) = FULL
                hours(0) = 0
                hours(31) = BAD
                hours(-1) = BAD
                hours(MOST) = BAD
                rules = 0 999
                back(0) = 969
                hours(1) = 0
                rules = 0 970
                hours(30) = FULL
                rules = 0 970
                hours(29) = 0
                rules = 0 999
                text() = 0
                rules = 0 0 30
                hours(1) = 29
                """);
        e.run("""
                33 * hours(30)
                hours(8)
                hours(2) = FULL
                hours(1) = 0
                hours(1) = FULL
                rules = 0 999
                """);
    }

    private static void runs(Edge e) {
        e.says(15, "BY HOURS, n of them (0 to 60): MOOD then (what 0), the greatest MOOD behind any of them, now too (1), the least (2), "
                + "which are OUT then (3; bits), behind how many first MOOD is 0, now too (4; NONE). BAD.");
        e.run(DAY + """
                runs(0, 0) = 10
                runs(0, 1) = 10
                runs(0, 2) = 10
                runs(0, 3) = 0
                runs(0, 4) = NONE
                runs(1, 0) = 5
                runs(1, 1) = 10
                runs(1, 2) = 5
                runs(1, 3) = 4
                runs(3, 1) = 10
                runs(4, 1) = 14
                runs(2, 2) = 4
                runs(5, 1) = 15
                runs(4, 3) = 5
                runs(5, 3) = 0
                runs(60, 0) = 15
                runs(60, 1) = 15
                runs(60, 2) = 4
                runs(60, 3) = 0
                runs(60, 4) = NONE
                runs(59, 0) = 15
                runs(61, 0) = BAD
                runs(-1, 0) = BAD
                runs(0, -1) = BAD
                runs(0, 5) = BAD
                runs(61, 4) = BAD
                runs(LEAST, 0) = BAD
                runs(MOST, 4) = BAD
                runs(0, LEAST) = BAD
                runs(0, MOST) = BAD
                bounds runs(0..60, 0)
                bounds runs(0..60, 1)
                bounds runs(0..60, 2)
                bounds runs(0..60, 3)
                bounds runs(0..60, 4)
                bounds runs(0, 0..4)
                bounds runs(60, 0..4)
                """);
        e.run("""
                mood(60)
                runs(60, 4) = 60
                runs(59, 4) = NONE
                runs(60, 0) = 0
                runs(59, 0) = 1
                runs(60, 2) = 0
                runs(60, 1) = 60
                mood(61)
                runs(60, 4) = NONE
                runs(60, 0) = 1
                mood(0)
                runs(0, 4) = 0
                runs(60, 4) = 0
                tire(0)
                mood(1)
                runs(60, 4) = NONE
                mood(99)
                runs(60, 1) = 99
                runs(60, 2) = 99
                """);
        // 0 now, more later; 0 again: the first one is told.
        e.run("""
                pack(2, 9, 1)
                pack(0, 1, 1)
                tire(0)
                mood(0)
                runs(9, 4) = 0
                mood(3)
                runs(1, 0) = 4
                runs(1, 4) = NONE
                runs(2, 4) = 2
                runs(9, 4) = 2
                runs(9, 1) = 4
                """);
    }

    private static void gone(Edge e) {
        e.says(16, "BY HOURS: behind how many (1 to 60) a THING is GONE first. BAD; STATE: it is GONE now.");
        e.run("""
                gone(0) = BAD
                7 * pack(3, 0, 1)
                gone(6) = 6
                gone(0) = 12
                gone(7) = BAD
                gone(-1) = BAD
                gone(LEAST) = BAD
                gone(MOST) = BAD
                bounds gone(0..6)
                hours(5)
                gone(6) = 1
                gone(0) = 7
                hours(1)
                gone(6) = STATE
                gone(5) = 1
                gone(0) = 6
                hours(6)
                gone(0) = STATE
                gone(6) = STATE
                gone(7) = BAD
                strap()
                gone(0) = 12
                lift()
                gone(6) = BAD
                gone(0) = 11
                """);
    }

    private static void glad(Edge e) {
        e.says(17, "BY HOURS: behind how many (0 to 60) MOOD is v (0 to 99) or more first. BAD; NONE: behind none.");
        e.run(DAY + """
                glad(0) = 0
                glad(9) = 0
                glad(10) = 0
                glad(11) = 4
                glad(14) = 4
                glad(15) = 5
                glad(16) = NONE
                glad(99) = NONE
                glad(100) = BAD
                glad(-1) = BAD
                glad(LEAST) = BAD
                glad(MOST) = BAD
                bounds glad(0..99)
                hours(3)
                glad(9) = 0
                glad(10) = 1
                """);
        e.run("""
                mood(99)
                glad(99) = 0
                mood(98)
                glad(99) = NONE
                pack(0, 2, 1)
                glad(99) = 1
                mood(0)
                glad(0) = 0
                glad(1) = 1
                glad(3) = 3
                glad(4) = NONE
                """);
        // The last that is taken OUT is so in the 12th HOUR at the latest.
        e.run("""
                7 * pack(3, 0, 1)
                tire(0)
                mood(0)
                glad(42) = 12
                glad(41) = 11
                glad(43) = NONE
                """);
    }
}
