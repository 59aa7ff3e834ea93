/** THE TAPE, TOKENS, FAULTS; promises 2 to 5. */
final class EdgeText {
    private static final String SEVEN = "view1 1;view1 1;view1 1;view1 1;view1 1;view1 1;view1 1;";
    // Something of everything, so that a text that is refused has something to change.
    private static final String START = """
            told 'view 9 1;glass 3 2;mood 50;tire 2;'
            see(1, 60)
            keep(1)
            hours(1)
            sheet(0, 0, 3)
            """;

    private EdgeText() {
    }

    static void all(Edge e) {
        tape(e);
        feed(e);
        end(e);
        tokens(e);
        lines(e);
        firstFault(e);
        noToken(e);
        standing(e);
        outOfBounds(e);
        secondTime(e);
        eighth(e);
        taken(e);
        text(e);
        fault(e);
    }

    private static String blanks(int n) {
        return " ".repeat(n);
    }

    private static void texts(Edge e, String lines) {
        e.eachBehind(START, lines);
    }

    private static void tape(Edge e) {
        e.says(0, "THE TAPE has 160 bytes, places from 0.");
        texts(e, "text '" + blanks(153) + "mood 7;' = 1 0");
        texts(e, "text '" + blanks(152) + "mood 77;' = 1 0");
        texts(e, "text '" + blanks(160) + "' = 0 0");
        texts(e, "text '" + blanks(159) + "!' = -169 1");
        texts(e, "text '" + blanks(158) + "!' = -168 1");
        texts(e, "text '!' = -10 1");
        texts(e, "text ' !' = -11 1");
        texts(e, "text '" + blanks(156) + "mood' = -170 2");
        texts(e, "text '" + blanks(155) + "mood' = -169 2");
        texts(e, "text '" + "a".repeat(160) + "' = -10 2");
        texts(e, "text '" + "7".repeat(160) + "' = -10 1");
        // The last letters do not come any more: 'mood 7' ends without a ; at 160.
        texts(e, "text '" + blanks(154) + "mood 7;' = -170 2");
    }

    private static void feed(Edge e) {
        e.says(2, "A byte (0 to 127) comes behind THE TAPE: how many it has.");
        e.run("""
                count(2) = 0
                feed(-1) = BAD
                feed(128) = BAD
                feed(LEAST) = BAD
                feed(MOST) = BAD
                feed(255) = BAD
                feed(256) = BAD
                feed(0) = 1
                feed(127) = 2
                feed(1) = 3
                feed(126) = 4
                feed(-1) = BAD
                count(2) = 4
                bounds feed(0..127)
                """);
        e.run("""
                feed(109) = 1
                feed(111) = 2
                feed(111) = 3
                feed(100) = 4
                feed(200) = BAD
                feed(52) = 5
                feed(55) = 6
                feed(59) = 7
                text() = 1
                rules = 0 0 47
                feed(32) = 1
                """);
        e.says(2, "BAD; FULL: more than 160.");
        e.run("""
                159 * feed(32)
                count(2) = 159
                feed(33) = 160
                count(2) = 160
                feed(32) = FULL
                feed(0) = FULL
                feed(127) = FULL
                feed(-1) = BAD
                feed(128) = BAD
                feed(LEAST) = BAD
                feed(MOST) = BAD
                count(2) = 160
                text() = -169
                count(2) = 0
                feed(32) = 1
                """);
        e.run("""
                160 * feed(32)
                end(159) = 160
                feed(33) = 160
                feed(34) = FULL
                text() = -169
                """);
    }

    private static void end(Edge e) {
        e.says(3, "THE TAPE keeps its first n bytes: how many it had. BAD.");
        e.run("""
                end(0) = 0
                end(1) = BAD
                end(-1) = BAD
                end(LEAST) = BAD
                end(MOST) = BAD
                fed 'mood 12;!'
                end(10) = BAD
                end(9) = 9
                end(8) = 9
                end(9) = BAD
                count(2) = 8
                end(-1) = BAD
                count(2) = 8
                bounds end(0..8)
                text() = 1
                rules = 0 0 12
                end(1) = BAD
                """);
        e.run("""
                fed 'mood 12;'
                end(6) = 8
                feed(59) = 7
                text() = 1
                rules = 0 0 1
                fed 'mood 12;'
                end(1) = 8
                end(0) = 1
                end(0) = 0
                text() = 0
                rules = 0 0 30
                """);
        e.run("""
                160 * feed(32)
                end(161) = BAD
                end(160) = 160
                count(2) = 160
                feed(32) = FULL
                end(0) = 160
                count(2) = 0
                """);
    }

    private static void tokens(Edge e) {
        e.says(0, "TOKENS, each as long as may be, blanks (32) between: NAMES (a .. z), NUMBERS (1 or 2 figures), one ; .");
        texts(e, """
                text 'plain6 2;' = 1 0
                text 'plain 6 2;' = 1 0
                text '   plain   6   2   ;   ' = 1 0
                text 'plain06 02;' = 1 0
                text 'mood5;tire5;' = 2 0
                text 'mood05;tire05;' = 2 0
                text 'plain 62;' = -16 3
                text 'plain62;' = -15 3
                text 'plain 6 21;' = -18 3
                text 'moodtire 5;' = -10 2
                text 'mood mood;' = -15 2
                text 'mo od 5;' = -10 2
                text 'mood 1 2;' = -17 2
                text 'mood 5;;' = -17 2
                text ';' = -10 2
                text 'aplain 6 2;' = -10 2
                text 'plainz 6 2;' = -10 2
                text 'plaina 6 2;' = -10 2
                text 'z' = -10 2
                text 'a' = -10 2
                text '0' = -10 2
                text '9' = -10 2
                text '99' = -10 2
                """);
        // The signs next to a, z, 0, 9, ; and the blank are no TOKENS; nor are capitals, 0, 127.
        String strange = "`{/:<\u001f!@[AZ\u0000\u0001\t\u007f~-_";
        for (int k = 0; k < strange.length(); k++) {
            String sign = strange.substring(k, k + 1);
            texts(e, "text '" + sign + "' = -10 1");
            texts(e, "text 'mood" + sign + "5;' = -14 1");
            texts(e, "text 'mood 5" + sign + ";' = -16 1");
            texts(e, "text 'mood 5;" + sign + "' = -17 1");
            texts(e, "text 'mo" + sign + "od 5;' = -10 2");
        }
        e.run("""
                fed 'mood'
                feed(10)
                fed '5;'
                text() = -14
                fault() = 1
                """);
    }

    private static void lines(Edge e) {
        e.says(0, "text: { line } line: plain N N ; | glass N N ; | shower N N ; | view N N ; | mood N ; | tire N ;");
        texts(e, """
                text '' = 0 0
                text ' ' = 0 0
                text 'plain 1 1;' = 1 0
                text 'glass 1 1;' = 1 0
                text 'shower 1 1;' = 1 0
                text 'view 1 1;' = 1 0
                text 'mood 1;' = 1 0
                text 'tire 1;' = 1 0
                text 'tire 1;mood 1;view 1 1;' = 3 0
                """);
        texts(e, "text '" + SEVEN + "' = 7 0");
        texts(e, "text '" + SEVEN + "mood 1;tire 1;' = 9 0");
        texts(e, "text 'tire 1;" + SEVEN + "mood 1;' = 9 0");
        e.says(0, "plain, glass, shower, view: a THING more of that KIND, upon all others: GOOD, WEIGHT. mood: MOOD. tire: TIRE.");
        e.run("""
                told 'plain 9 1;glass 0 9;shower 1 2;view 3 4;mood 99;tire 9;'
                rules = 4 0 99 9 4 0
                thing(0) = 0 9 1 2 15
                thing(1) = 1 0 9 9 6
                thing(2) = 2 1 2 4 4
                thing(3) = 3 3 4 4 0
                thing(4) = BAD
                told 'tire 0;mood 0;'
                rules = 0 0 0 0 0 0 0
                thing(0) = BAD
                told 'mood 1;'
                rules = 0 0 1 1
                told 'tire 8;'
                rules = 0 0 30 8
                """);
    }

    private static void firstFault(Edge e) {
        e.says(0, "FAULTS, the first met as it is read (a TOKEN is read when the one before has been taken):");
        texts(e, """
                text 'plain 10 100;' = -16 3
                text 'plain 100 10;' = -16 1
                text 'plain 10!' = -16 3
                text 'plain 9!' = -17 1
                text 'plain x!' = -16 2
                text 'plain !x' = -16 1
                text 'plain 1 0!' = -18 3
                text 'plain 1 0' = -18 3
                text 'tire 10' = -15 3
                text 'tire 10 x' = -15 3
                text 'wasps!' = -10 2
                text 'wasps 100;' = -10 2
                text 'mood 1;mood!' = -17 4
                text 'mood 1;mood 100;' = -17 4
                text 'mood 1;mood' = -17 4
                text 'tire 1;tire 10;' = -17 4
                text 'mood 1!mood 1;' = -16 1
                text '123' = -10 1
                text '12 !' = -10 2
                """);
        texts(e, "text '" + SEVEN + "plain!' = -66 5");
        texts(e, "text '" + SEVEN + "plain 100 1;' = -66 5");
        texts(e, "text '" + SEVEN + "plain 10 1;' = -66 5");
        texts(e, "text '" + SEVEN + "plain' = -66 5");
        texts(e, "text '" + SEVEN + "!plain' = -66 1");
    }

    private static void noToken(Edge e) {
        e.says(0, "1 no TOKEN, a NUMBER that is too long (its first byte).");
        texts(e, """
                text '!' = -10 1
                text 'plain!' = -15 1
                text 'plain !' = -16 1
                text 'plain 1!' = -17 1
                text 'plain 1 1!' = -19 1
                text 'plain 1 1;!' = -20 1
                text '  !!' = -12 1
                text '000' = -10 1
                text 'mood 99;' = 1 0
                text 'mood 100;' = -15 1
                text 'mood 000;' = -15 1
                text 'mood 005;' = -15 1
                text 'mood  1234567890;' = -16 1
                text 'plain 1 001;' = -18 1
                text 'tire 009;' = -15 1
                text 'plain 001 1;' = -16 1
                text 'mood 5 123;' = -17 1
                text 'mood 12x;' = -17 2
                """);
    }

    private static void standing(Edge e) {
        e.says(0, "2 a TOKEN that can not stand there (a NAME that begins no line; or the end: the length).");
        texts(e, """
                text 'wasps 1 1;' = -10 2
                text 'plai 1 1;' = -10 2
                text 'plains 1 1;' = -10 2
                text 'glas 1 1;' = -10 2
                text 'showers 1 1;' = -10 2
                text 'views 1 1;' = -10 2
                text 'moods 1;' = -10 2
                text 'tired 1;' = -10 2
                text 'mood 1;hour 1;' = -17 2
                text '1' = -10 2
                text ';' = -10 2
                text 'plain' = -15 2
                text 'plain ' = -16 2
                text 'plain ;' = -16 2
                text 'plain plain' = -16 2
                text 'plain 1' = -17 2
                text 'plain 1;' = -17 2
                text 'plain 1 mood' = -18 2
                text 'plain 1 1' = -19 2
                text 'plain 1 1  ' = -21 2
                text 'plain 1 1 1;' = -20 2
                text 'plain 1 1 glass' = -20 2
                text 'glass' = -15 2
                text 'glass 1' = -17 2
                text 'glass 1 1' = -19 2
                text 'shower' = -16 2
                text 'shower 1 1 1' = -21 2
                text 'view' = -14 2
                text 'view 1 1 ' = -19 2
                text 'mood' = -14 2
                text 'mood;' = -14 2
                text 'mood mood' = -15 2
                text 'mood 1' = -16 2
                text 'mood 1 1;' = -17 2
                text 'mood 1 tire' = -17 2
                text 'tire' = -14 2
                text 'tire ' = -15 2
                text 'tire ;' = -15 2
                text 'tire tire' = -15 2
                text 'tire 1' = -16 2
                text 'tire 1 1;' = -17 2
                text 'tire 1 mood' = -17 2
                """);
        // Each letter of a NAME counts.
        for (String name : new String[] {"plain", "glass", "shower", "view", "mood", "tire"}) {
            for (int at = 0; at < name.length(); at++) {
                texts(e, "text '" + name.substring(0, at) + "x" + name.substring(at + 1) + " 1 1;' = -10 2");
                texts(e, "text '" + name.substring(0, at) + name.substring(at + 1) + " 1 1;' = -10 2");
            }
        }
    }

    private static void outOfBounds(Edge e) {
        e.says(0, "3 a NUMBER out of its bounds.");
        String[] kinds = {"plain", "glass", "shower", "view"};
        for (String kind : kinds) {
            int at = -10 - kind.length();
            texts(e, "text '" + kind + "0 1;' = 1 0");
            texts(e, "text '" + kind + "9 9;' = 1 0");
            texts(e, "text '" + kind + "09 09;' = 1 0");
            texts(e, "text '" + kind + "00 01;' = 1 0");
            texts(e, "text '" + kind + "10 1;' = " + at + " 3");
            texts(e, "text '" + kind + "99 1;' = " + at + " 3");
            texts(e, "text '" + kind + "1 0;' = " + (at - 2) + " 3");
            texts(e, "text '" + kind + "1 00;' = " + (at - 2) + " 3");
            texts(e, "text '" + kind + "1 10;' = " + (at - 2) + " 3");
            texts(e, "text '" + kind + "1 99;' = " + (at - 2) + " 3");
        }
        texts(e, """
                text 'mood 0;' = 1 0
                text 'mood 00;' = 1 0
                text 'mood 10;' = 1 0
                text 'mood 99;' = 1 0
                text 'tire 0;' = 1 0
                text 'tire 9;' = 1 0
                text 'tire 09;' = 1 0
                text 'tire 10;' = -15 3
                text 'tire 99;' = -15 3
                text 'mood 1;tire 1;plain 1 1;plain 1 0;' = -42 3
                """);
    }

    private static void secondTime(Edge e) {
        e.says(0, "4 mood, tire for the second time (its NAME).");
        texts(e, """
                text 'mood 1;tire 1;' = 2 0
                text 'tire 1;mood 1;' = 2 0
                text 'mood 1;mood 1;' = -17 4
                text 'tire 1;tire 1;' = -17 4
                text 'mood 1;  mood 2;' = -19 4
                text 'mood 1;tire 1;mood 1;' = -24 4
                text 'tire 1;mood 1;tire 1;' = -24 4
                text 'mood 1;plain 1 1;mood 2;' = -27 4
                text 'tire 1;plain 1 1;tire 2;' = -27 4
                """);
        // What an earlier text told does not count.
        e.run("""
                text 'mood 1;tire 1;' = 2 0
                text 'mood 2;tire 2;' = 2 0
                text 'mood 3;mood' = -17 4
                text 'mood 4;tire 4;' = 2 0
                rules = 0 0 4 4
                """);
    }

    private static void eighth(Edge e) {
        e.says(0, "5 the 8th THING (its NAME).");
        for (String kind : new String[] {"plain", "glass", "shower", "view"}) {
            texts(e, "text '" + SEVEN + kind + " 1 1;' = -66 5");
            texts(e, "text '" + SEVEN + "  " + kind + " 1 1;' = -68 5");
        }
        texts(e, "text 'mood 1;" + SEVEN + "tire 1;plain 1 1;' = -80 5");
        texts(e, "text '" + SEVEN + "' = 7 0");
        texts(e, "text '" + SEVEN + "mood 1;' = 8 0");
        texts(e, "text '" + SEVEN + "wasps 1 1;' = -66 2");
        texts(e, "text '" + SEVEN + "mood 1;mood' = -73 4");
        // THINGS that were there before do not count.
        e.run("""
                7 * pack(0, 1, 1)
                text 'plain 1 1;' = 1 0
                rules = 1
                """);
    }

    private static void taken(Edge e) {
        e.says(0, "A text that is taken tells all, in place of what there was (all are IN); nothing is SEEN; IMAGES are gone.");
        String much = """
                7 * pack(3, 5, 5)
                mood(77)
                tire(7)
                hours(3)
                6 * see(3, 3)
                keep(0)
                keep(1)
                sheet(0, 1, 40)
                read(1, 0, 0, 1)
                counts = 6 2 0 40 35 35
                """;
        e.run(much + """
                text '' = 0 0
                rules = 0 0 30 1 0 0 0
                counts = 0 0 0 40 0 0
                thing(0) = BAD
                back(0) = STATE
                back(1) = STATE
                torn() = 1
                """);
        e.run(much + """
                text 'plain 6 1;glass 5 2;mood 9;' = 3 0
                rules = 2 0 9 1 2 0 0
                thing(0) = 0 6 1 2 2 26 0
                thing(1) = 1 5 2 2 0 30 0
                thing(2) = BAD
                counts = 0 0 0 40 11 3
                back(0) = STATE
                back(1) = STATE
                kinds(0) = 15
                torn() = 1
                keep(0) = 0
                """);
        e.run(much + """
                text 'plain 6 1;glass 5 2;mood 9;!' = -37 1
                counts = 6 2 0 40 35 35
                rules = 7 3
                back(1) = 3
                keep(0) = 1
                """);
    }

    private static void text(Edge e) {
        e.says(4, "THE TAPE (empty then) tells all: how many lines; -10 less the place of its FAULT: that which was told stays.");
        e.run("""
                text() = 0
                fed 'plain 6 2;mood 5;'
                count(2) = 17
                text() = 2
                count(2) = 0
                rules = 1 0 5
                fed 'view 1 1;mood'
                count(2) = 13
                text() = -23
                count(2) = 0
                fault() = 2
                rules = 1 0 5 1 1 0 0
                thing(0) = 0 6 2
                text() = 0
                fault() = 0
                rules = 0 0 30
                """);
        e.run(START + "160 * feed(33)\ntext() = -10\ncount(2) = 0\nrules = 2 1 54 2 1 2 1\ncount(1) = 1");
    }

    private static void fault(Edge e) {
        e.says(5, "The FAULT of the latest text(); 0.");
        e.run("""
                fault() = 0
                text '!' = -10 1
                text 'x' = -10 2
                text 'tire 10;' = -15 3
                text 'mood 1;mood 1;' = -17 4
                feed(33) = 1
                fault() = 4
                end(0) = 1
                fault() = 4
                hours(1) = 29
                keep(0) = 0
                back(0) = 1
                read(0, 0, 0, 1) = 0
                fault() = 4
                text 'mood 1;' = 1 0
                text '!' = -10 1
                text() = 0
                fault() = 0
                """);
        e.run("text '" + SEVEN + "view' = -66 5\nfault() = 5\ntext() = 0\nfault() = 0");
    }
}
