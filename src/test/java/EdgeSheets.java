/** IMAGES and SHEETS; promises 33 to 39. */
final class EdgeSheets {
    private EdgeSheets() {
    }

    static void all(Edge e) {
        keep(e);
        back(e);
        sheets(e);
        faults(e);
        sheet(e);
        lay(e);
        read(e);
        readOfMachine(e);
        readRefused(e);
        torn(e);
        count(e);
    }

    private static void keep(Edge e) {
        e.says(33, "IMAGE k (0, 1) is THINGS (all of them), MOOD, TIRE, HOUR, what was SEEN: whether there was one (1, 0). BAD.");
        e.run("""
                keep(-1) = BAD
                keep(2) = BAD
                keep(LEAST) = BAD
                keep(MOST) = BAD
                count(1) = 0
                bounds keep(0..1)
                keep(0) = 0
                count(1) = 1
                keep(0) = 1
                count(1) = 1
                keep(1) = 0
                count(1) = 2
                keep(1) = 1
                keep(0) = 1
                keep(2) = BAD
                keep(-1) = BAD
                count(1) = 2
                bounds keep(0..1)
                text() = 0
                count(1) = 0
                keep(1) = 0
                keep(0) = 0
                """);
        // Seven THINGS, IN, OUT and GONE, and six SEEN come back.
        e.run("""
                told 'plain 1 1;glass 2 2;shower 3 3;view 4 4;plain 5 5;glass 6 6;shower 7 7;mood 60;tire 3;'
                6 * see(20, 1)
                forget(5)
                see(0, 99)
                hours(5)
                rules = 7 5 43 3 2 12 63
                keep(1) = 0
                6 * hours(1)
                strap()
                7 * lift()
                forget(0)
                mood(1)
                tire(1)
                back(1) = 5
                rules = 7 5 43 3 2 12 63
                thing(0) = 0 1 1 2 27 20 0
                thing(1) = 1 2 2 2 25 22 0
                thing(2) = 2 3 3 6 22 19 4
                thing(3) = 3 4 4 4 18 25 4
                thing(4) = 0 5 5 10 13 22 0
                thing(5) = 1 6 6 6 7 26 0
                thing(6) = 2 7 7 14 0 13 0
                counts = 6 1 0 NONE 28 28
                gone(6) = STATE
                gone(5) = STATE
                """);
        // An IMAGE of nothing brings nothing back, and what is kept does not change with what there is.
        e.run("""
                keep(0) = 0
                7 * pack(3, 9, 9)
                6 * see(1, 1)
                hours(9)
                keep(1) = 0
                back(0) = 0
                rules = 0 0 30 1 0 0 0
                counts = 0 2 0 NONE 0 0
                thing(0) = BAD
                back(1) = 9
                rules = 7
                counts = 6 2
                """);
    }

    private static void back(Edge e) {
        e.says(34, "All is as IMAGE k: HOUR. BAD; STATE: there is none.");
        e.run("""
                back(0) = STATE
                back(1) = STATE
                back(2) = BAD
                back(-1) = BAD
                back(LEAST) = BAD
                back(MOST) = BAD
                pack(0, 5, 5)
                hours(1) = 34
                back(0) = STATE
                keep(1) = 0
                back(0) = STATE
                back(2) = BAD
                bounds back(0..1)
                hours(30)
                back(1) = 1
                rules = 1 1 34 1 0 1
                thing(0, 6) = 2
                back(1) = 1
                alter(0, 1, 9)
                back(1) = 1
                thing(0) = 0 5 5
                back(0) = STATE
                text '!' = -10 1
                back(1) = 1
                text() = 0
                back(1) = STATE
                back(0) = STATE
                """);
        // What was SEEN comes back as it was, each of the six.
        e.run("""
                told 'plain 5 1;mood 30;tire 0;'
                see(1, 35)
                see(2, 40)
                4 * see(3, 45)
                keep(0) = 0
                forget(1) = 6
                see(1, 36)
                goods(0) = 0
                keep(1) = 0
                forget(0) = 2
                goods(0) = 1023
                back(0) = 0
                count(0) = 6
                goods(0) = 32
                back(1) = 0
                count(0) = 2
                goods(0) = 0
                forget(1) = 2
                goods(0) = 32
                """);
        // One packed behind back() is IN, whatever lay there before.
        e.run("""
                pack(0, 1, 1)
                keep(0)
                pack(3, 1, 1)
                hours(1)
                thing(1, 6) = 5
                back(0) = 0
                rules = 1 0 30 1 1 0
                pack(3, 1, 1) = 2
                thing(1, 6) = 0
                rules = 2 0 30 1 2 0
                strap() = 0
                """);
        // HOUR 999 comes back too; TAPE, SHEETS, fault() and torn() are no part of an IMAGE.
        e.run("""
                keep(0)
                33 * hours(30)
                hours(9)
                keep(1) = 0
                back(0) = 0
                hours(1) = 29
                back(1) = 999
                hours(1) = FULL
                sheet(0, 0, 5)
                text '!' = -10 1
                feed(32)
                read(1, 0, 0, 1)
                back(0) = 0
                counts = 0 2 1 5 0 0
                fault() = 1
                torn() = 1
                """);
    }

    private static void sheets(Edge e) {
        e.says(0, "SHEETS 0 to 3 are rows of BYTES (lane 0), SHORTS (1), INTS (2) with 0 to 40 CELLS, or nothing (at first).");
        for (int k = 0; k < 4; k++) {
            for (int lane = 0; lane < 3; lane++) {
                String of = "(" + k + ", ";
                e.run("lay" + of + "0, 0) = -11\nsheet" + of + lane + ", 0) = 1\nlay" + of + "0, 0) = -12\nsheet" + of + lane + ", 1) = 1\n"
                        + "lay" + of + "0, 0) = 1\nlay" + of + "1, 0) = -12\nsheet" + of + lane + ", 40) = 1\nlay" + of + "39, 0) = 1\n"
                        + "lay" + of + "40, 0) = -12\nsheet" + of + lane + ", 41) = BAD\nlay" + of + "39, 0) = 1\n"
                        + "lay" + of + "2, 1) = 1\nread" + of + lane + ", 0, 1) = 1\n"
                        + "read" + of + (lane + 1) % 3 + ", 0, 1) = 0\ntorn() = 3\nread" + of + (lane + 2) % 3 + ", 0, 1) = 0\ntorn() = 3");
            }
        }
        e.run("""
                lay(4, 0, 0) = BAD
                lay(-1, 0, 0) = BAD
                sheet(4, 0, 0) = BAD
                sheet(-1, 0, 0) = BAD
                sheet(0, 3, 0) = BAD
                sheet(0, -1, 0) = BAD
                lay(0, 0, 0) = -11
                """);
    }

    private static void faults(Edge e) {
        e.says(0, "A FAULT is what the machine finds: 1 NULL (nothing), 2 INDEX, 3 CAST (another lane), 4 SIZE (below 0).");
        // Nothing may be taken as of any lane, a row of another lane is refused ahead of its index.
        e.run("""
                read(0, 0, -1, 1) = 0
                torn() = 1
                lay(0, -1, 0) = -11
                sheet(0, 1, 0) = 1
                read(0, 0, -1, 1) = 0
                torn() = 3
                read(0, 1, -1, 1) = 0
                torn() = 2
                read(0, 1, 0, 1) = 0
                torn() = 2
                lay(0, 0, 0) = -12
                sheet(0, 0, -1) = -14
                count(3) = 0
                """);
    }

    private static void sheet(Edge e) {
        e.says(35, "A SHEET is a new row of CELLS 0: 1. BAD: also n above 40; -10 - 4.");
        e.run("""
                sheet(0, 0, -1) = -14
                sheet(0, 0, LEAST) = -14
                sheet(0, 0, 41) = BAD
                sheet(0, 0, MOST) = BAD
                sheet(0, 0, 296) = BAD
                count(3) = NONE
                sheet(4, 0, -1) = BAD
                sheet(-1, 0, -1) = BAD
                sheet(0, 3, -1) = BAD
                sheet(0, -1, -1) = BAD
                sheet(4, 3, 41) = BAD
                sheet(LEAST, LEAST, LEAST) = BAD
                sheet(MOST, MOST, MOST) = BAD
                sheet(0, 0, 0) = 1
                count(3) = 0
                sheet(0, 0, 40) = 1
                count(3) = 40
                sheet(0, 0, 39) = 1
                count(3) = 39
                sheet(0, 0, -1) = -14
                sheet(0, 0, 41) = BAD
                count(3) = 39
                sheet(0, 0, 1) = 1
                count(3) = 1
                sheet(3, 2, 5) = 1
                count(3) = 1
                bounds sheet(0..3, 0, 1)
                bounds sheet(0, 0..2, 1)
                """);
        // A new row is of CELLS 0, also where an old one was, also of the same lane and length.
        e.run("""
                sheet(0, 2, 40) = 1
                lay(0, 37, 3) = 1
                lay(0, 38, 9) = 1
                lay(0, 39, 9) = 1
                read(0, 2, 37, 1) = 1
                sheet(0, 2, -5) = -14
                read(0, 2, 37, 1) = 1
                sheet(0, 2, 40) = 1
                read(0, 2, 37, 1) = -20
                lay(0, 39, 1) = 1
                read(0, 2, 37, 1) = 1
                thing(2) = 0 0 1
                sheet(0, 0, 3) = 1
                laid 0 = 3 9 9
                sheet(0, 0, 3) = 1
                lay(0, 2, 1) = 1
                read(0, 0, 0, 1) = 1
                thing(3) = 0 0 1
                lift()
                sheet(0, 2, 40) = 1
                read(0, 2, 37, 1) = -20
                read(0, 0, 0, 1) = 0
                torn() = 3
                rules = 3
                """);
    }

    private static void lay(Edge e) {
        e.says(36, "CELL i of a SHEET becomes v (its lowest bits): 1.");
        // 8, 16 and 32 bits; a CELL of a byte or a short is below 0 if its highest bit is set.
        String bytes = "sheet(0, 0, 3)\nlaid 0 = 259 -247 ";
        e.run(bytes + "65541\nread(0, 0, 0, 1) = 1\nthing(0) = 3 9 5\nlaid 0 = -256 16777216\nread(0, 0, 0, 1) = 1\nthing(1) = 0 0 5\n"
                + "lay(0, 0, LEAST) = 1\nread(0, 0, 0, 1) = 1\nlay(0, 0, MOST) = 1\nread(0, 0, 0, 1) = -20\nlay(0, 0, 0) = 1\n"
                + "lay(0, 2, 128) = 1\nread(0, 0, 0, 1) = -20\nlay(0, 2, 127) = 1\nread(0, 0, 0, 1) = -20\nlay(0, 2, 133) = 1\nread(0, 0, 0, 1) = -20\n"
                + "lay(0, 2, 257) = 1\nread(0, 0, 0, 1) = 1");
        String shorts = "sheet(1, 1, 3)\nlaid 1 = 65539 -65527 ";
        e.run(shorts + "131077\nread(1, 1, 0, 1) = 1\nthing(0) = 3 9 5\nlay(1, 0, 259) = 1\nread(1, 1, 0, 1) = -20\nlay(1, 0, LEAST) = 1\n"
                + "read(1, 1, 0, 1) = 1\nthing(1) = 0 9 5\nlay(1, 2, 32773) = 1\nread(1, 1, 0, 1) = -20\nlay(1, 2, 256) = 1\nread(1, 1, 0, 1) = -20\n"
                + "lay(1, 2, MOST) = 1\nread(1, 1, 0, 1) = -20\nlay(1, 2, 65537) = 1\nread(1, 1, 0, 1) = 1");
        e.run("""
                sheet(2, 2, 3)
                laid 2 = 3 9 5
                read(2, 2, 0, 1) = 1
                thing(0) = 3 9 5
                lay(2, 0, 65539) = 1
                read(2, 2, 0, 1) = -20
                lay(2, 0, LEAST) = 1
                read(2, 2, 0, 1) = -20
                lay(2, 0, MOST) = 1
                read(2, 2, 0, 1) = -20
                lay(2, 0, 259) = 1
                read(2, 2, 0, 1) = -20
                lay(2, 0, 0) = 1
                read(2, 2, 0, 1) = 1
                """);
        e.says(36, "BAD: k; -10 less the FAULT: NULL, INDEX.");
        e.run("""
                lay(0, 0, 0) = -11
                lay(0, -1, 0) = -11
                lay(0, LEAST, 0) = -11
                lay(3, MOST, MOST) = -11
                lay(4, 0, 0) = BAD
                lay(-1, 0, 0) = BAD
                lay(LEAST, LEAST, LEAST) = BAD
                lay(MOST, MOST, MOST) = BAD
                sheet(1, 0, 0)
                lay(1, 0, 0) = -12
                lay(1, -1, 0) = -12
                sheet(0, 0, 40)
                lay(0, -1, 1) = -12
                lay(0, 0, 1) = 1
                lay(0, 39, 1) = 1
                lay(0, 40, 1) = -12
                lay(0, 41, 1) = -12
                lay(0, LEAST, 1) = -12
                lay(0, MOST, 1) = -12
                lay(0, 256, 1) = -12
                lay(4, 40, 1) = BAD
                sheet(0, 0, 3)
                lay(0, 2, 1) = 1
                lay(0, 3, 1) = -12
                lay(0, 39, 1) = -12
                bounds lay(0..3, 0, 0)
                """);
    }

    private static final String FULL_ROW = "sheet(0, 0, 40)\n"
            + "laid 0 = 0 1 1 1 2 2 2 3 3 3 4 4 0 5 5 1 6 6 2 7 7 3 8 8 0 9 9 1 0 1 2 1 2 3 2 3 0 3 4 0\n";

    private static void read(Edge e) {
        e.says(37, "n (0 to 13) times KIND, GOOD, WEIGHT are read of a SHEET taken as of a lane, three CELLS each from CELL f on, "
                + "one behind another as by pack(): how many came.");
        e.run(FULL_ROW + """
                read(0, 0, 0, 0) = 0
                torn() = 0
                rules = 0
                read(0, 0, 0, 1) = 1
                thing(0) = 0 1 1
                read(0, 0, 3, 2) = 2
                thing(1) = 1 2 2
                thing(2) = 2 3 3
                rules = 3 0 30 1 3
                read(0, 0, 36, 1) = 1
                thing(3) = 0 3 4
                lay(0, 37, 0)
                lay(0, 38, 0)
                lay(0, 39, 9)
                read(0, 0, 37, 1) = 1
                thing(4) = 0 0 9
                7 * lift()
                read(0, 0, 0, 7) = 7
                thing(6) = 2 7 7
                rules = 7 0 30 1 7
                read(0, 0, 0, 0) = 0
                torn() = 0
                7 * lift()
                read(0, 0, 0, 8) = -27
                read(0, 0, 0, 13) = -27
                read(0, 0, 1, 13) = -23
                rules = 0
                """);
        // No CELL is read by n 0: one OUT, of nothing, of another lane, from any CELL.
        e.run("""
                pack(0, 0, 1)
                hours(1)
                read(0, 0, 0, 0) = 0
                torn() = 0
                sheet(0, 0, 3)
                read(0, 1, 0, 0) = 0
                torn() = 0
                read(0, 0, -1, 0) = 0
                read(0, 0, MOST, 0) = 0
                read(0, 0, LEAST, 0) = 0
                torn() = 0
                """);
    }

    private static void readOfMachine(Edge e) {
        e.says(37, "What the machine refuses: those that were whole ahead came (its FAULT is asked by torn()).");
        e.run(FULL_ROW + """
                lay(0, 39, 1)
                read(0, 0, 36, 2) = 1
                torn() = 2
                read(0, 0, 33, 3) = 2
                torn() = 2
                rules = 3
                read(0, 0, 38, 1) = 0
                torn() = 2
                read(0, 0, 39, 1) = 0
                read(0, 0, 40, 1) = 0
                read(0, 0, -1, 1) = 0
                read(0, 0, -3, 2) = 0
                read(0, 0, LEAST, 13) = 0
                read(0, 0, MOST, 13) = 0
                torn() = 2
                rules = 3
                """);
        for (String f : new String[] {"MOST", "2147483646", "2147483645", "2147483644", "2147483610", "LEAST", "-2147483647", "-1", "-2", "-3", "-39", "3"}) {
            e.run("sheet(0, 0, 3)\nlay(0, 2, 1)\nread(0, 0, " + f + ", 13) = 0\ntorn() = 2\nrules = 0\nread(0, 0, " + f + ", 1) = 0\ntorn() = 2");
        }
        // 2, 1 and no CELL of the second one are there.
        for (int cells = 3; cells < 6; cells++) {
            e.run("sheet(1, 2, " + cells + ")\nlaid 1 = 3 9 9\nread(1, 2, 0, 2) = 1\ntorn() = 2\nthing(0) = 3 9 9\nrules = 1 0 30 1 1");
        }
        e.run("sheet(1, 2, 6)\nlaid 1 = 3 9 9 2 8 8\nread(1, 2, 0, 2) = 2\ntorn() = 0\nthing(1) = 2 8 8");
        e.run("sheet(1, 2, 2)\nread(1, 2, 0, 1) = 0\ntorn() = 2\nread(2, 2, 0, 1) = 0\ntorn() = 1\nread(1, 1, 0, 1) = 0\ntorn() = 3\nrules = 0");
        // What the machine refuses at once pack() is not asked about.
        e.run("""
                7 * pack(0, 0, 1)
                hours(1)
                sheet(0, 0, 3)
                read(0, 0, 1, 1) = 0
                torn() = 2
                read(0, 1, 0, 1) = 0
                torn() = 3
                read(1, 1, 0, 1) = 0
                torn() = 1
                read(0, 0, 0, 1) = -20
                torn() = 1
                """);
    }

    private static void readRefused(Edge e) {
        e.says(37, "BAD: k, lane, n; -20 less i: the i-th, whole, is refused by pack() (in whichever way): then none came; the first met.");
        e.run(FULL_ROW + """
                read(-1, 0, 0, 1) = BAD
                read(4, 0, 0, 1) = BAD
                read(0, -1, 0, 1) = BAD
                read(0, 3, 0, 1) = BAD
                read(0, 0, 0, -1) = BAD
                read(0, 0, 0, 14) = BAD
                read(4, 3, -1, 14) = BAD
                read(LEAST, LEAST, LEAST, LEAST) = BAD
                read(MOST, MOST, MOST, MOST) = BAD
                read(1, 0, 0, 14) = BAD
                read(1, 3, 0, 1) = BAD
                bounds read(0..3, 0, 0, 1)
                bounds read(0, 0..2, 0, 1)
                bounds read(0, 0, 0, 0..13)
                rules = 0
                """);
        // BAD: each of the three, at either bound, as the first and behind others.
        String[] bad = {"-1 0 1", "4 0 1", "0 -1 1", "0 10 1", "0 0 0", "0 0 10", "127 0 1", "0 127 1", "0 0 -128"};
        for (String three : bad) {
            e.run("sheet(0, 0, 9)\nlaid 0 = " + three + " 0 0 1 0 0 1\nread(0, 0, 0, 1) = -20\nread(0, 0, 0, 3) = -20\nrules = 0\n"
                    + "read(0, 0, 3, 2) = 2\nread(0, 0, 0, 13) = -20\nrules = 2\nlaid 0 = 3 9 9 " + three
                    + " 0 0 1\nread(0, 0, 0, 3) = -21\nread(0, 0, 0, 13) = -21\nread(0, 0, 0, 1) = 1\nrules = 3\n"
                    + "laid 0 = 3 9 9 3 9 9 " + three + "\nread(0, 0, 0, 3) = -22\nread(0, 0, 0, 2) = 2\nrules = 5 0 30 1 5\nthing(4) = 3 9 9");
        }
        // FULL: with none, five, six and seven there.
        e.run(FULL_ROW + """
                read(0, 0, 0, 8) = -27
                rules = 0 0 30 1 0 0 0
                5 * pack(0, 1, 1)
                read(0, 0, 0, 13) = -22
                rules = 5 0 30 1 5
                read(0, 0, 0, 2) = 2
                rules = 7
                read(0, 0, 0, 1) = -20
                read(0, 0, 36, 2) = -20
                lift()
                read(0, 0, 0, 2) = -21
                rules = 6
                thing(6) = BAD
                read(0, 0, 36, 2) = 1
                torn() = 2
                """);
        // STATE: one is OUT, all are GONE.
        e.run(FULL_ROW + """
                pack(0, 1, 1)
                hours(1)
                read(0, 0, 0, 2) = -20
                rules = 1 1 30 1 0 1
                hours(5)
                read(0, 0, 0, 1) = -20
                rules = 1 6 27 1 0 0
                strap()
                read(0, 0, 0, 1) = 1
                """);
        // The first met: refused ahead of what the machine refuses, and the other way round.
        e.run("""
                sheet(0, 0, 5)
                laid 0 = 0 0 0 0 0
                read(0, 0, 0, 2) = -20
                torn() = 0
                lay(0, 2, 1)
                read(0, 0, 0, 2) = 1
                torn() = 2
                rules = 1
                read(0, 0, 0, 13) = 1
                rules = 2
                """);
    }

    private static void torn(Edge e) {
        e.says(38, "The FAULT of the latest read() that came to an end; 0.");
        e.run("""
                torn() = 0
                sheet(1, 1, 3)
                laid 1 = 0 0 1
                read(0, 0, 0, 1) = 0
                torn() = 1
                read(1, 1, 0, 1) = 1
                torn() = 0
                read(1, 0, 0, 1) = 0
                torn() = 3
                read(1, 1, 0, 1) = 1
                torn() = 0
                read(1, 1, 1, 1) = 0
                torn() = 2
                lay(1, 2, 0)
                read(1, 1, 0, 1) = -20
                torn() = 2
                read(1, 1, 0, 14) = BAD
                read(4, 1, 0, 1) = BAD
                torn() = 2
                lay(0, 0, 0) = -11
                sheet(0, 0, -1) = -14
                torn() = 2
                text() = 0
                torn() = 2
                read(1, 1, 0, 0) = 0
                torn() = 0
                """);
    }

    private static void count(Edge e) {
        e.says(39, "How many: 0 SEEN, 1 IMAGES, 2 bytes on THE TAPE, 3 CELLS of SHEET 0 (NONE: nothing), 4 GOOD of all, 5 WEIGHT of all. BAD.");
        e.run("""
                counts = 0 0 0 NONE 0 0
                count(-1) = BAD
                count(6) = BAD
                count(LEAST) = BAD
                count(MOST) = BAD
                count(3) = NONE
                sheet(1, 0, 9)
                count(3) = NONE
                sheet(0, 0, 0)
                count(3) = 0
                bounds count(0..5)
                6 * see(0, 0)
                keep(0)
                keep(1)
                160 * feed(32)
                sheet(0, 2, 40)
                7 * pack(0, 9, 9)
                counts = 6 2 160 40 63 63
                hours(1)
                counts = 6 2 160 40 63 63
                hours(20)
                counts = 6 2 160 40 63 63
                count(6) = BAD
                count(-1) = BAD
                """);
        e.run("7 * pack(0, 0, 1)\ncounts = 0 0 0 NONE 0 7\nlift()\ncounts = 0 0 0 NONE 0 6");
    }
}
