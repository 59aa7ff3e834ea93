/** Which answer comes where two would fit, and that what is refused changes nothing. */
final class EdgeAnswers {
    private EdgeAnswers() {
    }

    static void all(Edge e) {
        firstThatFits(e);
        changesNothing(e);
    }

    private static void firstThatFits(Edge e) {
        e.says(0, "Answers: BAD -1 (a number is not as told, there is no such THING, IMAGE, SHEET), STATE -2 (as told), FULL -3, "
                + "NONE -4 (there is none), the first that fits;");
        e.due("BAD", HamperDays.BAD, -1);
        e.due("STATE", HamperDays.STATE, -2);
        e.due("FULL", HamperDays.FULL, -3);
        e.due("NONE", HamperDays.NONE, -4);
        badAheadOfState(e);
        badAheadOfFull(e);
        badAheadOfNone(e);
        stateAheadOfOthers(e);
        badAheadOfTheMachine(e);
    }

    private static void badAheadOfState(Edge e) {
        e.run("""
                back(0) = STATE
                back(2) = BAD
                drift(1, 1, 0) = STATE
                drift(1, 0, 0) = BAD
                drift(1, 61, 0) = BAD
                drift(1, 1, 2) = BAD
                pack(0, 1, 1)
                hours(1)
                pack(0, 1, 1) = STATE
                pack(4, 1, 1) = BAD
                pack(0, 10, 1) = BAD
                pack(0, 1, 0) = BAD
                order(0) = STATE
                order(15) = BAD
                order(5) = BAD
                leave(1, 0) = STATE
                leave(61, 0) = BAD
                leave(1, 2) = BAD
                top(1, 0) = STATE
                top(-1, 0) = BAD
                top(1, -1) = BAD
                swap(1, 0) = STATE
                swap(61, 0) = BAD
                swap(1, 2) = BAD
                hours(2)
                gone(0) = STATE
                gone(1) = BAD
                """);
    }

    private static void badAheadOfFull(Edge e) {
        e.run("""
                7 * pack(0, 1, 1)
                pack(0, 1, 1) = FULL
                pack(-1, 1, 1) = BAD
                pack(0, -1, 1) = BAD
                pack(0, 1, 10) = BAD
                6 * see(1, 1)
                see(1, 1) = FULL
                see(21, 1) = BAD
                see(1, 100) = BAD
                160 * feed(32)
                feed(32) = FULL
                feed(128) = BAD
                feed(-1) = BAD
                33 * hours(30)
                hours(9)
                hours(1) = FULL
                hours(31) = BAD
                hours(-1) = BAD
                """);
    }

    private static void badAheadOfNone(Edge e) {
        e.run("""
                runs(5, 4) = NONE
                runs(61, 4) = BAD
                runs(-1, 4) = BAD
                glad(31) = NONE
                glad(100) = BAD
                order(10) = NONE
                order(15) = BAD
                leave(5, 0) = NONE
                leave(61, 0) = BAD
                leave(5, 2) = BAD
                top(5, 1) = NONE
                top(61, 1) = BAD
                top(5, 2) = BAD
                swap(5, 0) = NONE
                swap(-1, 0) = BAD
                swap(5, -1) = BAD
                bear(1, 31) = NONE
                bear(61, 31) = BAD
                bear(1, 100) = BAD
                count(3) = NONE
                count(6) = BAD
                pack(0, 1, 1)
                need(0, 0, 31) = NONE
                need(1, 0, 31) = BAD
                need(0, 61, 31) = BAD
                need(0, 0, 100) = BAD
                mood(0)
                tire(9)
                ask(0, 0) = NONE
                ask(0, 2) = BAD
                ask(1, 0) = BAD
                """);
    }

    private static void stateAheadOfOthers(Edge e) {
        e.run("""
                7 * pack(0, 1, 1)
                hours(1)
                pack(0, 1, 1) = STATE
                order(14) = STATE
                leave(0, 0) = STATE
                top(0, 0) = STATE
                swap(0, 0) = STATE
                new
                pack(0, 1, 1)
                hours(1)
                order(11) = STATE
                order(14) = STATE
                leave(0, 1) = STATE
                top(0, 1) = STATE
                swap(0, 1) = STATE
                lift() = STATE
                """);
    }

    private static void badAheadOfTheMachine(Edge e) {
        e.run("""
                sheet(0, 0, -1) = -14
                sheet(4, 0, -1) = BAD
                sheet(0, 3, -1) = BAD
                lay(0, -1, 0) = -11
                lay(4, -1, 0) = BAD
                read(0, 0, -1, 1) = 0
                read(4, 0, -1, 1) = BAD
                read(0, 3, -1, 1) = BAD
                read(0, 0, -1, 14) = BAD
                torn() = 1
                sheet(0, 0, 3)
                read(0, 0, 0, 1) = -20
                read(0, 0, 0, 14) = BAD
                lay(0, 3, 0) = -12
                lay(-1, 3, 0) = BAD
                """);
    }

    private static void changesNothing(Edge e) {
        e.says(0, "what is refused changes nothing (but THE TAPE, as told).");
        refusedUnderWay(e);
        refusedWhenFull(e);
        askedUnderWay(e);
        e.run(UNDER_WAY + "text() = -23\ncount(2) = 0\nfault() = 2");
        e.run(UNDER_WAY + "fed '!'\ntext() = -23\ncount(2) = 0\nfault() = 1");
        e.run(UNDER_WAY + "fed ' 3;!'\ntext() = -26\ncount(2) = 0\nfault() = 1");
    }

    // Two are IN, two OUT, one is GONE; what is SEEN, kept, laid and fed is not nothing either.
    private static final String UNDER_WAY = """
            told 'view 9 2;glass 3 2;plain 4 4;shower 2 3;plain 8 1;mood 50;tire 2;'
            see(2, 58)
            see(4, 60)
            keep(1)
            hours(3)
            see(1, 64)
            sheet(0, 0, 6)
            laid 0 = 3 9 9 0 0 1
            sheet(1, 1, 4)
            laid 1 = 1 2 3 4
            sheet(2, 2, 0)
            text 'tire 10;' = -15 3
            read(0, 0, 5, 1)
            fed 'view 7 7;mood'
            feed(32)
            end(13)
            """;

    private static void refusedUnderWay(Edge e) {
        e.run(UNDER_WAY + """
                rules = 5 3 68 2 2 12
                counts = 3 1 13 6 26 12
                end(14) = BAD
                end(-1) = BAD
                feed(128) = BAD
                feed(-1) = BAD
                rule(7) = BAD
                thing(5, 0) = BAD
                thing(0, 7) = BAD
                alter(5, 0, 0) = BAD
                alter(0, 3, 0) = BAD
                alter(0, 0, 4) = BAD
                alter(0, 1, 10) = BAD
                alter(0, 2, 0) = BAD
                mood(100) = BAD
                mood(-1) = BAD
                tire(10) = BAD
                tire(-1) = BAD
                pack(0, 0, 1) = STATE
                pack(4, 0, 1) = BAD
                lift() = STATE
                hours(31) = BAD
                hours(-1) = BAD
                runs(61, 0) = BAD
                runs(0, 5) = BAD
                runs(9, 4) = NONE
                gone(5) = BAD
                gone(4) = STATE
                glad(100) = BAD
                order(0) = STATE
                order(15) = BAD
                leave(5, 0) = STATE
                leave(61, 0) = BAD
                top(5, 0) = STATE
                top(61, 0) = BAD
                swap(5, 0) = STATE
                swap(61, 0) = BAD
                need(5, 1, 1) = BAD
                need(4, 0, 99) = NONE
                kind(5, 1, 0) = BAD
                bear(0, 99) = NONE
                bear(61, 1) = BAD
                luck(11, 8, 1, 0) = BAD
                mean(1, 9, 0) = BAD
                see(21, 0) = BAD
                see(0, 100) = BAD
                forget(4) = BAD
                forget(-1) = BAD
                kinds(5) = BAD
                goods(5) = BAD
                ask(5, 0) = BAD
                ask(4, 0) = NONE
                drift(1, 0, 0) = BAD
                keep(2) = BAD
                keep(-1) = BAD
                back(0) = STATE
                back(2) = BAD
                sheet(0, 0, 41) = BAD
                sheet(0, 0, -1) = -14
                sheet(4, 0, 1) = BAD
                sheet(0, 3, 1) = BAD
                lay(4, 0, 1) = BAD
                lay(3, 0, 1) = -11
                lay(2, 0, 1) = -12
                lay(0, 6, 1) = -12
                read(0, 0, 0, 1) = -20
                read(0, 0, 3, 1) = -20
                read(0, 0, 0, 14) = BAD
                read(0, 3, 0, 1) = BAD
                read(4, 0, 0, 1) = BAD
                count(6) = BAD
                rules = 5 3 68 2 2 12
                counts = 3 1 13 6 26 12
                fault() = 3
                torn() = 2
                """);
    }

    private static void refusedWhenFull(Edge e) {
        e.run("""
                7 * pack(3, 7, 5)
                6 * see(3, 40)
                33 * hours(30)
                hours(9)
                strap()
                mood(44)
                keep(0)
                keep(1)
                sheet(0, 1, 40)
                laid 0 = 1 2 3 2 3 4
                sheet(3, 2, 40)
                fed 'mood 9;'
                153 * feed(32)
                feed(32) = FULL
                feed(59) = FULL
                end(161) = BAD
                pack(0, 1, 1) = FULL
                pack(0, 1, 0) = BAD
                hours(1) = FULL
                hours(30) = FULL
                see(0, 0) = FULL
                forget(7) = BAD
                order(0) = STATE
                leave(0, 0) = NONE
                top(0, 0) = NONE
                swap(0, 0) = NONE
                read(0, 1, 0, 1) = -20
                read(0, 1, 0, 13) = -20
                read(3, 2, 0, 1) = -20
                lay(0, 40, 9) = -12
                sheet(0, 1, 41) = BAD
                sheet(0, 1, -1) = -14
                alter(7, 1, 1) = BAD
                rules = 7 999 44 1 7 0
                counts = 6 2 160 40 49 35
                """);
    }

    private static void askedUnderWay(Edge e) {
        e.run(UNDER_WAY + """
                rule(6) = 3
                thing(0, 5) = 29
                thing(4, 6) = 0
                fault() = 3
                torn() = 2
                runs(60, 0) = 0
                runs(60, 1) = 99
                runs(60, 2) = 0
                runs(60, 3) = 0
                runs(60, 4) = 57
                gone(0) = 7
                glad(68) = 0
                glad(69) = 1
                glad(99) = 5
                need(0, 2, 50) = 0
                kind(0, 2, 0) = 3
                kind(0, 2, 1) = 81
                bear(1, 0) = 9
                luck(0, 1, 0, 0) = 1
                mean(10, 0, 0) = 68
                kinds(4) = 0
                goods(4) = 0
                ask(0, 0) = NONE
                drift(1, 1, 1) = 14
                count(5) = 12
                """);
    }
}
