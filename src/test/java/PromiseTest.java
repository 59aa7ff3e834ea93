/** The promises one by one, with answers worked out by hand from the document. */
public final class PromiseTest {
    private static final int BAD = -1, STATE = -2, FULL = -3, NONE = -4;
    private static final int LEAST = Integer.MIN_VALUE, MOST = Integer.MAX_VALUE;
    private static final Check check = new Check();
    private static HamperDays x = new HamperDays();

    public static void main(String[] args) {
        newObject();
        feed();
        end();
        textTaken();
        textFaults();
        textChanges();
        rule();
        thing();
        alter();
        moodAndTire();
        pack();
        strap();
        lift();
        hours();
        runs();
        gone();
        glad();
        order();
        leave();
        top();
        swap();
        need();
        kind();
        bear();
        luck();
        mean();
        see();
        forget();
        kinds();
        goods();
        ask();
        drift();
        keepAndBack();
        sheet();
        lay();
        read();
        torn();
        count();
        check.close();
    }

    private static void start(String part) {
        check.part(part);
        x = new HamperDays();
    }

    private static void due(String call, long got, long want) {
        check.due(call, got, want);
    }

    private static void feedAll(String text) {
        for (int k = 0; k < text.length(); k++) {
            x.feed(text.charAt(k));
        }
    }

    private static void told(String text, int answer, int fault) {
        feedAll(text);
        due("text() of '" + text + "'", x.text(), answer);
        due("fault() of '" + text + "'", x.fault(), fault);
        due("count(2) behind '" + text + "'", x.count(2), 0);
    }

    /** A fresh object with this text told. */
    private static void with(String part, String text) {
        start(part);
        feedAll(text);
        check.holds("text is taken: " + text, x.text() >= 0);
    }

    private static void rules(int... want) {
        for (int what = 0; what < want.length; what++) {
            due("rule(" + what + ")", x.rule(what), want[what]);
        }
    }

    private static void things(int i, int... want) {
        for (int what = 0; what < want.length; what++) {
            due("thing(" + i + ", " + what + ")", x.thing(i, what), want[what]);
        }
    }

    private static void newObject() {
        start("1 new");
        rules(0, 0, 30, 1, 0, 0, 0);
        int[] counts = {0, 0, 0, NONE, 0, 0};
        for (int what = 0; what < counts.length; what++) {
            due("count(" + what + ")", x.count(what), counts[what]);
        }
        for (int k = 0; k < 4; k++) {
            due("lay(" + k + ", 0, 0)", x.lay(k, 0, 0), -11);
        }
        due("fault()", x.fault(), 0);
        due("torn()", x.torn(), 0);
        due("back(0)", x.back(0), STATE);
        due("back(1)", x.back(1), STATE);
        due("thing(0, 0)", x.thing(0, 0), BAD);
    }

    private static void feed() {
        start("2 feed");
        due("feed(-1)", x.feed(-1), BAD);
        due("feed(128)", x.feed(128), BAD);
        due("feed(LEAST)", x.feed(LEAST), BAD);
        due("feed(0)", x.feed(0), 1);
        due("feed(127)", x.feed(127), 2);
        for (int n = 3; n <= 160; n++) {
            due("feed(32)", x.feed(32), n);
        }
        due("feed(32), full", x.feed(32), FULL);
        due("feed(128), full", x.feed(128), BAD);
        due("count(2)", x.count(2), 160);
        due("end(0)", x.end(0), 160);
        due("feed(32)", x.feed(32), 1);
    }

    private static void end() {
        start("3 end");
        due("end(1)", x.end(1), BAD);
        due("end(0)", x.end(0), 0);
        feedAll("mood 5;x");
        due("end(-1)", x.end(-1), BAD);
        due("end(9)", x.end(9), BAD);
        due("count(2)", x.count(2), 8);
        due("end(8)", x.end(8), 8);
        due("end(7)", x.end(7), 8);
        due("end(8)", x.end(8), BAD);
        due("text()", x.text(), 1);
        rules(0, 0, 5);
    }

    private static void textTaken() {
        start("4 text");
        told("", 0, 0);
        told("   ", 0, 0);
        told("plain 6 2;glass 4 1;shower 5 3;view 0 9;", 4, 0);
        rules(4, 0, 30, 1, 4);
        things(0, 0, 6, 2);
        things(1, 1, 4, 1);
        things(2, 2, 5, 3);
        things(3, 3, 0, 9);
        told("  tire9;plain06 02 ;  mood 00;", 3, 0);
        rules(1, 0, 0, 9, 1);
        things(0, 0, 6, 2);
        told("mood 99;tire 0;", 2, 0);
        rules(0, 0, 99, 0, 0);
        told("plain9 1;plain9 1;plain9 1;plain9 1;plain9 1;plain9 1;plain9 1;mood1;tire1;", 9, 0);
        rules(7, 0, 1, 1, 7);
    }

    private static void textFaults() {
        start("5 fault");
        told("Plain 6 2;", -10, 1);
        told("plain 6 2!", -19, 1);
        told("plain 6.2;", -17, 1);
        told("plain\t6 2;", -15, 1);
        told("mood 123;", -15, 1);
        told("123;", -10, 1);
        told("plain 6 2 111;", -20, 1);
        told("mood 123!", -15, 1);
        told("plain 123 99;", -16, 1);
        told("plains 6 2;", -10, 2);
        told("plai 6 2;", -10, 2);
        told("moodtire 5;", -10, 2);
        told("6", -10, 2);
        told(" ;", -11, 2);
        told("mood 5;;", -17, 2);
        told("plain glass", -16, 2);
        told("plain 6 ;", -18, 2);
        told("plain 6 2 plain", -20, 2);
        told("plain 6 2 3;", -20, 2);
        told("plain", -15, 2);
        told("plain 6 2", -19, 2);
        told("plain 6 2  ", -21, 2);
        told("mood ", -15, 2);
        told("plain 10 2;", -16, 3);
        told("plain 62;", -16, 3);
        told("plain 6 0;", -18, 3);
        told("plain 6 10;", -18, 3);
        told("tire 10;", -15, 3);
        told("tire 10!", -15, 3);
        told("mood 5;mood!", -17, 4);
        told("tire 5;mood 1;tire 100", -24, 4);
        String seven = "view1 1;view1 1;view1 1;view1 1;view1 1;view1 1;view1 1;";
        told(seven + "plain!", -66, 5);
        told(seven + " glass", -67, 5);
        told(seven + "plains", -66, 2);
        told(seven + "mood 5;", 8, 0);
        String[] beyond = {"/", ":", "`", "{", "<", "!", "\u001f"};
        for (String sign : beyond) {
            told("mood" + sign, -14, 1);
            told("mood 5" + sign, -16, 1);
        }
        told("moodz 5;", -10, 2);
        told("mooda 5;", -10, 2);
        told("mood 09;tire 9;", 2, 0);
        told("a".repeat(160), -10, 2);
        told("1".repeat(160), -10, 1);
        told(" ".repeat(160), 0, 0);
        feedAll("moods");
        x.end(4);
        told("", -14, 2);
        feedAll("tire 55;");
        x.end(6);
        told("", -16, 2);
        due("rule(0)", x.rule(0), 0);
    }

    private static void textChanges() {
        with("4 text, what is told", "view 9 1;mood 5;tire 2;");
        x.hours(2);
        x.see(1, 1);
        x.keep(1);
        x.sheet(0, 0, 3);
        x.read(1, 0, 0, 1);
        told("plain 1 1;glass!", -25, 1);
        rules(1, 2, 39, 2, 0, 1, 0);
        due("count(0)", x.count(0), 1);
        due("count(1)", x.count(1), 1);
        told("plain 1 1;", 1, 0);
        rules(1, 0, 30, 1, 1, 0, 0);
        due("count(0)", x.count(0), 0);
        due("count(1)", x.count(1), 0);
        due("back(1)", x.back(1), STATE);
        due("count(3)", x.count(3), 3);
        due("torn()", x.torn(), 1);
        x.hours(1);
        told("plain 1 1;", 1, 0);
        due("thing(0, 6)", x.thing(0, 6), 0);
    }

    private static final String DAY = "plain 6 2;glass 4 1;shower 5 3;mood 10;tire 0;";

    private static void rule() {
        with("6 rule", DAY);
        rules(3, 0, 10, 0, 3, 0, 2);
        x.hours(1);
        rules(3, 1, 5, 0, 2, 4, 2);
        x.hours(3);
        rules(3, 4, 14, 0, 0, 5, 2);
        x.hours(1);
        rules(3, 5, 15, 0, 0, 0, 2);
        due("rule(-1)", x.rule(-1), BAD);
        due("rule(7)", x.rule(7), BAD);
        x.strap();
        x.alter(2, 2, 4);
        due("rule(6): 5 upon plain 2, 4 upon glass 1", x.rule(6), 3);
        x.alter(1, 2, 4);
        due("rule(6): 8 upon plain 2, 4 upon glass 4", x.rule(6), 1);
    }

    private static void thing() {
        with("7 thing", DAY + "view 9 5;");
        things(0, 0, 6, 2, 4, 9, 23, 0);
        things(1, 1, 4, 1, 1, 8, 24, 0);
        things(2, 2, 5, 3, 6, 5, 15, 0);
        things(3, 3, 9, 5, 5, 0, 39, 0);
        x.hours(1);
        due("thing(3, 6)", x.thing(3, 6), 5);
        x.hours(1);
        due("thing(3, 6)", x.thing(3, 6), 4);
        due("thing(2, 6)", x.thing(2, 6), 4);
        due("thing(1, 6)", x.thing(1, 6), 0);
        x.alter(3, 2, 9);
        due("crushed shower: thing(2, 5)", x.thing(2, 5), 18);
        x.alter(2, 0, 3);
        due("crushed view: thing(2, 5)", x.thing(2, 5), 25);
        due("thing(2, 3)", x.thing(2, 3), 3);
        due("thing(-1, 0)", x.thing(-1, 0), BAD);
        due("thing(4, 0)", x.thing(4, 0), BAD);
        due("thing(0, -1)", x.thing(0, -1), BAD);
        due("thing(0, 7)", x.thing(0, 7), BAD);
        due("thing(MOST, 0)", x.thing(MOST, 0), BAD);
    }

    private static void alter() {
        with("8 alter", DAY);
        due("alter(0, 0, 4)", x.alter(0, 0, 4), BAD);
        due("alter(0, 0, -1)", x.alter(0, 0, -1), BAD);
        due("alter(0, 1, 10)", x.alter(0, 1, 10), BAD);
        due("alter(0, 1, -1)", x.alter(0, 1, -1), BAD);
        due("alter(0, 2, 0)", x.alter(0, 2, 0), BAD);
        due("alter(0, 2, 10)", x.alter(0, 2, 10), BAD);
        due("alter(0, 3, 1)", x.alter(0, 3, 1), BAD);
        due("alter(0, -1, 1)", x.alter(0, -1, 1), BAD);
        due("alter(3, 0, 1)", x.alter(3, 0, 1), BAD);
        due("alter(-1, 0, 1)", x.alter(-1, 0, 1), BAD);
        things(0, 0, 6, 2);
        due("alter(0, 0, 3)", x.alter(0, 0, 3), 0);
        due("alter(0, 0, 0)", x.alter(0, 0, 0), 3);
        due("alter(0, 1, 9)", x.alter(0, 1, 9), 6);
        due("alter(0, 1, 0)", x.alter(0, 1, 0), 9);
        due("alter(0, 2, 9)", x.alter(0, 2, 9), 2);
        due("alter(0, 2, 1)", x.alter(0, 2, 1), 9);
        things(0, 0, 0, 1);
        x.hours(1);
        due("a shower that is OUT becomes a view", x.alter(2, 0, 3), 2);
        due("thing(2, 6)", x.thing(2, 6), 4);
    }

    private static void moodAndTire() {
        start("9 mood");
        due("mood(0)", x.mood(0), 30);
        due("mood(99)", x.mood(99), 0);
        due("mood(100)", x.mood(100), BAD);
        due("mood(-1)", x.mood(-1), BAD);
        due("rule(2)", x.rule(2), 99);
        check.part("10 tire");
        due("tire(9)", x.tire(9), 1);
        due("tire(0)", x.tire(0), 9);
        due("tire(10)", x.tire(10), BAD);
        due("tire(-1)", x.tire(-1), BAD);
        due("rule(3)", x.rule(3), 0);
        due("rule(2)", x.rule(2), 99);
    }

    private static void pack() {
        start("11 pack");
        due("pack(-1, 0, 1)", x.pack(-1, 0, 1), BAD);
        due("pack(4, 0, 1)", x.pack(4, 0, 1), BAD);
        due("pack(0, -1, 1)", x.pack(0, -1, 1), BAD);
        due("pack(0, 10, 1)", x.pack(0, 10, 1), BAD);
        due("pack(0, 0, 0)", x.pack(0, 0, 0), BAD);
        due("pack(0, 0, 10)", x.pack(0, 0, 10), BAD);
        due("pack(3, 9, 9)", x.pack(3, 9, 9), 1);
        due("pack(0, 0, 1)", x.pack(0, 0, 1), 2);
        things(0, 3, 9, 9);
        things(1, 0, 0, 1);
        rules(2, 0, 30, 1, 2);
        x.hours(1);
        due("pack(0, 0, 1), one OUT", x.pack(0, 0, 1), STATE);
        due("pack(0, 0, 0), one OUT", x.pack(0, 0, 0), BAD);
        x.hours(20);
        due("pack(0, 0, 1), all GONE", x.pack(0, 0, 1), STATE);
        x.strap();
        for (int n = 3; n <= 7; n++) {
            due("pack(1, 5, 5)", x.pack(1, 5, 5), n);
        }
        due("pack(1, 5, 5), the 8th", x.pack(1, 5, 5), FULL);
        x.hours(1);
        due("pack(1, 5, 5), the 8th, one OUT", x.pack(1, 5, 5), STATE);
        due("rule(0)", x.rule(0), 7);
    }

    private static void strap() {
        start("12 strap");
        due("strap()", x.strap(), 0);
        with("12 strap", DAY);
        due("strap()", x.strap(), 0);
        x.hours(4);
        rules(3, 4, 14, 0, 0, 5, 2);
        due("strap(), two OUT, one GONE", x.strap(), 3);
        rules(3, 4, 14, 0, 3, 0, 2);
        due("thing(2, 6)", x.thing(2, 6), 0);
        x.hours(1);
        due("strap(), one OUT", x.strap(), 1);
        due("hours(1)", x.hours(1), 4);
    }

    private static void lift() {
        start("13 lift");
        due("lift()", x.lift(), STATE);
        with("13 lift", DAY);
        due("lift()", x.lift(), 2);
        rules(2, 0, 10, 0, 2, 0, 0);
        due("thing(2, 0)", x.thing(2, 0), BAD);
        x.hours(1);
        due("lift(), one OUT", x.lift(), STATE);
        x.hours(9);
        due("lift(), all GONE", x.lift(), STATE);
        x.strap();
        due("lift()", x.lift(), 1);
        due("lift()", x.lift(), 0);
        due("lift()", x.lift(), STATE);
    }

    private static void hours() {
        with("14 hours", DAY);
        due("hours(-1)", x.hours(-1), BAD);
        due("hours(31)", x.hours(31), BAD);
        due("hours(0)", x.hours(0), 10);
        int[] moods = {5, 4, 9, 14, 15, 15};
        for (int n = 0; n < moods.length; n++) {
            due("hours(1)", x.hours(1), moods[n]);
        }
        with("14 hours, bounds of MOOD", "view 9 1;mood 95;tire 0;");
        due("hours(1)", x.hours(1), 99);
        x.tire(9);
        x.hours(5);
        due("hours(1)", x.hours(1), 90);
        due("hours(30)", x.hours(30), 0);
        start("14 hours, HOUR below 1000");
        for (int k = 0; k < 33; k++) {
            x.hours(30);
        }
        due("rule(1)", x.rule(1), 990);
        due("hours(10)", x.hours(10), FULL);
        due("hours(31)", x.hours(31), BAD);
        due("rule(1)", x.rule(1), 990);
        due("hours(9)", x.hours(9), 0);
        due("hours(1)", x.hours(1), FULL);
        due("hours(0)", x.hours(0), 0);
        due("rule(1)", x.rule(1), 999);
    }

    private static void runs() {
        with("15 runs", DAY);
        due("runs(0, 0)", x.runs(0, 0), 10);
        due("runs(2, 0)", x.runs(2, 0), 4);
        due("runs(60, 0)", x.runs(60, 0), 15);
        due("runs(2, 1)", x.runs(2, 1), 10);
        due("runs(4, 1)", x.runs(4, 1), 14);
        due("runs(1, 2)", x.runs(1, 2), 5);
        due("runs(60, 2)", x.runs(60, 2), 4);
        due("runs(0, 3)", x.runs(0, 3), 0);
        due("runs(3, 3)", x.runs(3, 3), 7);
        due("runs(4, 3)", x.runs(4, 3), 5);
        due("runs(5, 3)", x.runs(5, 3), 0);
        due("runs(60, 4)", x.runs(60, 4), NONE);
        x.mood(5);
        due("runs(1, 4)", x.runs(1, 4), 1);
        due("runs(0, 4)", x.runs(0, 4), NONE);
        x.mood(0);
        due("runs(0, 4)", x.runs(0, 4), 0);
        due("runs(-1, 0)", x.runs(-1, 0), BAD);
        due("runs(61, 0)", x.runs(61, 0), BAD);
        due("runs(0, 5)", x.runs(0, 5), BAD);
        due("runs(0, -1)", x.runs(0, -1), BAD);
        rules(3, 0, 0, 0, 3, 0, 2);
        x.lift();
        x.lift();
        x.lift();
        x.mood(60);
        x.tire(1);
        due("runs(60, 4)", x.runs(60, 4), 60);
        due("runs(59, 4)", x.runs(59, 4), NONE);
    }

    private static void gone() {
        with("16 gone", DAY + "view 0 1;");
        due("gone(3)", x.gone(3), 6);
        due("gone(2)", x.gone(2), 6);
        due("gone(1)", x.gone(1), 5);
        due("gone(0)", x.gone(0), 6);
        due("gone(4)", x.gone(4), BAD);
        due("gone(-1)", x.gone(-1), BAD);
        x.hours(5);
        due("gone(1)", x.gone(1), STATE);
        due("gone(0)", x.gone(0), 1);
        due("gone(3)", x.gone(3), 1);
        x.strap();
        due("gone(1)", x.gone(1), 5);
    }

    private static void glad() {
        with("17 glad", DAY);
        due("glad(10)", x.glad(10), 0);
        due("glad(0)", x.glad(0), 0);
        due("glad(11)", x.glad(11), 4);
        due("glad(15)", x.glad(15), 5);
        due("glad(16)", x.glad(16), NONE);
        due("glad(-1)", x.glad(-1), BAD);
        due("glad(100)", x.glad(100), BAD);
        rules(3, 0, 10, 0, 3, 0, 2);
    }

    private static void order() {
        with("18 order", DAY);
        due("order(0)", x.order(0), 27);
        due("order(10)", x.order(10), 0);
        due("order(11)", x.order(11), 2);
        due("order(12)", x.order(12), 1);
        due("order(13)", x.order(13), NONE);
        due("order(14)", x.order(14), NONE);
        due("order(15)", x.order(15), BAD);
        due("order(9)", x.order(9), BAD);
        due("order(1)", x.order(1), BAD);
        due("order(-1)", x.order(-1), BAD);
        due("order(LEAST)", x.order(LEAST), BAD);
        rules(3, 0, 10, 0, 3, 0, 2);
        x.pack(0, 0, 1);
        x.pack(0, 0, 1);
        check.holds("5 THINGS are ordered", x.order(0) >= 0);
        x.pack(0, 0, 1);
        due("order(0), 6 THINGS", x.order(0), STATE);
        due("order(15), 6 THINGS", x.order(15), BAD);
        x.lift();
        x.hours(1);
        due("order(0), one OUT", x.order(0), STATE);
        due("order(14), one OUT", x.order(14), STATE);
        // Each bears all that are less just so; any other order crushes one: 3 times 4 glasses of 4 and 2, less 10.
        with("18 order, the last row", "glass 2 1;glass 2 2;glass 2 3;glass 2 6;plain 2 9;mood 0;tire 1;");
        due("order(0)", x.order(0), 44);
        for (int i = 0; i < 5; i++) {
            due("order(" + (10 + i) + ")", x.order(10 + i), 4 - i);
        }
        start("18 order, nothing");
        due("order(0)", x.order(0), 20);
        due("order(10)", x.order(10), NONE);
        with("18 order, all alike", "plain 1 9;plain 1 9;plain 1 9;plain 1 9;plain 1 9;");
        // Two are crushed in any order: 30 less 10, and 3 times 3.
        due("order(0)", x.order(0), 29);
        for (int i = 0; i < 5; i++) {
            due("order(" + (10 + i) + ")", x.order(10 + i), i);
        }
    }

    private static void leave() {
        with("19 leave", DAY);
        due("leave(6, 0)", x.leave(6, 0), 2);
        due("leave(6, 1)", x.leave(6, 1), 52);
        due("leave(0, 0)", x.leave(0, 0), NONE);
        due("leave(0, 1)", x.leave(0, 1), NONE);
        due("leave(-1, 0)", x.leave(-1, 0), BAD);
        due("leave(61, 0)", x.leave(61, 0), BAD);
        due("leave(6, 2)", x.leave(6, 2), BAD);
        due("leave(6, -1)", x.leave(6, -1), BAD);
        rules(3, 0, 10, 0, 3, 0, 2);
        x.hours(1);
        due("leave(6, 0)", x.leave(6, 0), STATE);
        due("leave(61, 0)", x.leave(61, 0), BAD);
        start("19 leave, nothing");
        due("leave(6, 0)", x.leave(6, 0), NONE);
        with("19 leave, two alike", "shower 5 9;shower 5 9;");
        due("leave(60, 0): MOOD is 0 either way", x.leave(60, 0), NONE);
        due("leave(6, 0)", x.leave(6, 0), NONE);
        x.mood(99);
        due("leave(6, 0)", x.leave(6, 0), 0);
        due("leave(6, 1)", x.leave(6, 1), 68);
    }

    private static void top() {
        with("20 top", DAY);
        due("top(6, 0)", x.top(6, 0), 1);
        due("top(6, 1)", x.top(6, 1), 27);
        due("top(0, 0)", x.top(0, 0), NONE);
        due("top(-1, 0)", x.top(-1, 0), BAD);
        due("top(61, 0)", x.top(61, 0), BAD);
        due("top(6, 2)", x.top(6, 2), BAD);
        rules(3, 0, 10, 0, 3, 0, 2);
        x.hours(1);
        due("top(6, 0)", x.top(6, 0), STATE);
        with("20 top, all behind go down by one", "view 9 1;glass 9 9;plain 1 9;tire 0;mood 0;");
        // 0 on top: 19 + 19 + 1 behind 2 HOURS; 1 on top: 18 + 18 + 1.
        due("top(2, 0)", x.top(2, 0), 0);
        due("top(2, 1)", x.top(2, 1), 39);
    }

    private static void swap() {
        with("21 swap", DAY);
        due("swap(6, 0)", x.swap(6, 0), 12);
        due("swap(6, 1)", x.swap(6, 1), 27);
        due("swap(0, 0)", x.swap(0, 0), NONE);
        due("swap(0, 1)", x.swap(0, 1), NONE);
        due("swap(-1, 0)", x.swap(-1, 0), BAD);
        due("swap(61, 0)", x.swap(61, 0), BAD);
        due("swap(6, 2)", x.swap(6, 2), BAD);
        rules(3, 0, 10, 0, 3, 0, 2);
        x.hours(1);
        due("swap(6, 0)", x.swap(6, 0), STATE);
        with("21 swap, the least of several", "plain 8 1;plain 8 1;plain 0 1;plain 0 1;tire 0;");
        due("swap(1, 0)", x.swap(1, 0), 3);
        due("swap(1, 1)", x.swap(1, 1), 38);
        x.alter(0, 1, 7);
        due("swap(1, 0)", x.swap(1, 0), 13);
    }

    private static void need() {
        with("22 need", DAY);
        due("need(1, 3, 8)", x.need(1, 3, 8), 4);
        due("need(1, 3, 0)", x.need(1, 3, 0), 0);
        due("need(0, 3, 99)", x.need(0, 3, 99), NONE);
        due("need(2, 1, 10)", x.need(2, 1, 10), 0);
        due("need(3, 1, 1)", x.need(3, 1, 1), BAD);
        due("need(-1, 1, 1)", x.need(-1, 1, 1), BAD);
        due("need(0, -1, 1)", x.need(0, -1, 1), BAD);
        due("need(0, 61, 1)", x.need(0, 61, 1), BAD);
        due("need(0, 1, 100)", x.need(0, 1, 100), BAD);
        due("need(0, 1, -1)", x.need(0, 1, -1), BAD);
        things(1, 1, 4, 1);
        x.hours(3);
        due("need(0, 1, 17), OUT", x.need(0, 1, 17), 9);
        due("need(0, 1, 18), OUT", x.need(0, 1, 18), NONE);
    }

    private static void kind() {
        with("23 kind", DAY);
        due("kind(2, 1, 0)", x.kind(2, 1, 0), 3);
        due("kind(2, 1, 1)", x.kind(2, 1, 1), 21);
        due("kind(0, 1, 0)", x.kind(0, 1, 0), 0);
        due("kind(0, 1, 1)", x.kind(0, 1, 1), 5);
        due("kind(3, 1, 0)", x.kind(3, 1, 0), BAD);
        due("kind(-1, 1, 0)", x.kind(-1, 1, 0), BAD);
        due("kind(0, -1, 0)", x.kind(0, -1, 0), BAD);
        due("kind(0, 61, 0)", x.kind(0, 61, 0), BAD);
        due("kind(0, 1, 2)", x.kind(0, 1, 2), BAD);
        due("kind(0, 1, -1)", x.kind(0, 1, -1), BAD);
        things(2, 2, 5, 3);
        with("23 kind, frail ones crushed", "plain 9 2;plain 0 4;mood 0;tire 0;");
        due("kind(0, 4, 1): plain 27, glass 24, view 27", x.kind(0, 4, 1), 27);
        due("kind(0, 4, 0)", x.kind(0, 4, 0), 0);
        due("kind(0, 5, 1)", x.kind(0, 5, 1), 36);
        due("kind(0, 5, 0)", x.kind(0, 5, 0), 3);
    }

    private static void bear() {
        with("24 bear", DAY);
        due("bear(1, 3)", x.bear(1, 3), 2);
        due("bear(1, 5)", x.bear(1, 5), 0);
        due("bear(1, 6)", x.bear(1, 6), NONE);
        due("bear(0, 10)", x.bear(0, 10), 9);
        due("bear(0, 11)", x.bear(0, 11), NONE);
        due("bear(60, 0)", x.bear(60, 0), 9);
        due("bear(-1, 0)", x.bear(-1, 0), BAD);
        due("bear(61, 0)", x.bear(61, 0), BAD);
        due("bear(0, -1)", x.bear(0, -1), BAD);
        due("bear(0, 100)", x.bear(0, 100), BAD);
        due("rule(3)", x.rule(3), 0);
    }

    private static void luck(int v, int n, int w, long up, long down) {
        String call = "luck(" + v + ", " + n + ", " + w + ", ";
        due(call + "0)", x.luck(v, n, w, 0), up);
        due(call + "1)", x.luck(v, n, w, 1), down);
    }

    private static void luck() {
        with("25 luck", DAY);
        luck(5, 0, 10, 1, 1);
        luck(5, 0, 11, 0, 1);
        luck(0, 1, 6, 0, 1);
        luck(10, 1, 6, 1, 1);
        luck(3, 1, 6, 3, 10);
        luck(4, 1, 6, 2, 5);
        luck(5, 2, 5, 1, 2);
        due("luck(-1, 1, 1, 0)", x.luck(-1, 1, 1, 0), BAD);
        due("luck(11, 1, 1, 0)", x.luck(11, 1, 1, 0), BAD);
        due("luck(1, -1, 1, 0)", x.luck(1, -1, 1, 0), BAD);
        due("luck(1, 9, 1, 0)", x.luck(1, 9, 1, 0), BAD);
        due("luck(1, 1, -1, 0)", x.luck(1, 1, -1, 0), BAD);
        due("luck(1, 1, 100, 0)", x.luck(1, 1, 100, 0), BAD);
        due("luck(1, 1, 1, 2)", x.luck(1, 1, 1, 2), BAD);
        due("luck(1, 1, 1, -1)", x.luck(1, 1, 1, -1), BAD);
        rules(3, 0, 10, 0, 3, 0, 2);
        with("25 luck, eight HOURS", "plain 1 1;mood 0;tire 0;");
        // It is never taken OUT by 3 out of ten each HOUR: 6561 out of 10 to the 8th.
        luck(3, 8, 1, 100000000L - 6561L, 100000000L);
        luck(10, 8, 1, 0, 1);
    }

    private static void mean(int v, int n, long up, long down) {
        String call = "mean(" + v + ", " + n + ", ";
        due(call + "0)", x.mean(v, n, 0), up);
        due(call + "1)", x.mean(v, n, 1), down);
    }

    private static void mean() {
        with("26 mean", DAY);
        mean(5, 0, 10, 1);
        mean(0, 1, 5, 1);
        mean(10, 1, 10, 1);
        mean(5, 1, 15, 2);
        mean(5, 2, 19, 4);
        mean(3, 1, 13, 2);
        due("mean(-1, 1, 0)", x.mean(-1, 1, 0), BAD);
        due("mean(11, 1, 0)", x.mean(11, 1, 0), BAD);
        due("mean(1, -1, 0)", x.mean(1, -1, 0), BAD);
        due("mean(1, 9, 0)", x.mean(1, 9, 0), BAD);
        due("mean(1, 1, 2)", x.mean(1, 1, 2), BAD);
        due("mean(1, 1, -1)", x.mean(1, 1, -1), BAD);
        rules(3, 0, 10, 0, 3, 0, 2);
        with("26 mean, nothing", "plain 9 1;mood 0;tire 9;");
        mean(5, 8, 0, 1);
        with("26 mean, eight HOURS", "plain 1 1;mood 0;tire 0;");
        // 3 behind it, but 2, 1 and 0 where it comes OUT in the last two HOURS, the last, or not at all.
        long all = 100000000L, none = 6561L, last = 2187L * 7, lastButOne = 729L * 7 * 10;
        long sum = 3 * (all - none - last - lastButOne) + 2 * lastButOne + last;
        long shared = java.math.BigInteger.valueOf(sum).gcd(java.math.BigInteger.valueOf(all)).longValue();
        mean(3, 8, sum / shared, all / shared);
    }

    private static void see() {
        start("27 see");
        due("see(-1, 0)", x.see(-1, 0), BAD);
        due("see(21, 0)", x.see(21, 0), BAD);
        due("see(0, -1)", x.see(0, -1), BAD);
        due("see(0, 100)", x.see(0, 100), BAD);
        for (int n = 1; n <= 6; n++) {
            due("see(20, 99)", x.see(20, 99), n);
        }
        due("see(0, 0), the 7th", x.see(0, 0), FULL);
        due("see(0, 100), the 7th", x.see(0, 100), BAD);
        due("count(0)", x.count(0), 6);
    }

    private static void forget() {
        with("28 forget", DAY);
        due("forget(0)", x.forget(0), 0);
        due("forget(1)", x.forget(1), BAD);
        x.see(1, 5);
        x.see(1, 6);
        x.see(1, 7);
        due("forget(-1)", x.forget(-1), BAD);
        due("forget(4)", x.forget(4), BAD);
        due("goods(2)", x.goods(2), 0);
        due("forget(3)", x.forget(3), 3);
        due("forget(1)", x.forget(1), 3);
        due("goods(2): the first is kept", x.goods(2), 32);
        due("forget(0)", x.forget(0), 1);
        due("goods(2)", x.goods(2), 1023);
    }

    private static void kinds() {
        with("29 kinds", DAY);
        due("kinds(2), nothing SEEN", x.kinds(2), 15);
        x.see(1, 5);
        due("kinds(2)", x.kinds(2), 4);
        due("kinds(0)", x.kinds(0), 15);
        x.see(2, 99);
        due("kinds(0)", x.kinds(0), 0);
        due("kinds(3)", x.kinds(3), BAD);
        due("kinds(-1)", x.kinds(-1), BAD);
        things(2, 2, 5, 3);
        x.forget(0);
        x.hours(1);
        x.see(0, 5);
        due("kinds(2), from now on", x.kinds(2), 15);
        x.see(1, 4);
        due("kinds(2), OUT", x.kinds(2), 4);
        x.mood(6);
        due("kinds(2), another MOOD now", x.kinds(2), 0);
    }

    private static void goods() {
        with("30 goods", DAY);
        due("goods(2), nothing SEEN", x.goods(2), 1023);
        x.see(2, 4);
        due("goods(1), crushed", x.goods(1), 48);
        due("goods(2)", x.goods(2), 32);
        due("goods(0)", x.goods(0), 1023);
        x.see(3, 9);
        due("goods(0)", x.goods(0), 64);
        due("goods(3)", x.goods(3), BAD);
        due("goods(-1)", x.goods(-1), BAD);
        things(1, 1, 4, 1);
        x.mood(11);
        due("goods(0), another MOOD now", x.goods(0), 0);
    }

    private static void ask() {
        with("31 ask", DAY);
        due("ask(0, 0)", x.ask(0, 0), 3);
        due("ask(0, 1)", x.ask(0, 1), 1);
        due("ask(1, 0): by pairs, half of it, down", x.ask(1, 0), 2);
        due("ask(1, 1)", x.ask(1, 1), 2);
        due("ask(3, 0)", x.ask(3, 0), BAD);
        due("ask(-1, 0)", x.ask(-1, 0), BAD);
        due("ask(0, 2)", x.ask(0, 2), BAD);
        due("ask(0, -1)", x.ask(0, -1), BAD);
        x.see(3, 9);
        due("ask(0, 0), one good alone", x.ask(0, 0), NONE);
        due("ask(0, 1), one good alone", x.ask(0, 1), NONE);
        x.see(3, 8);
        due("ask(0, 0), no good", x.ask(0, 0), NONE);
        x.forget(0);
        x.hours(6);
        due("ask(0, 0), GONE", x.ask(0, 0), NONE);
        with("31 ask, at the 20th HOUR at the latest", "plain 5 1;mood 99;tire 0;");
        due("ask(0, 0), MOOD at its most", x.ask(0, 0), NONE);
        x.tire(1);
        // 0: falls by 1; 1 on: stays for 3 HOURS.
        due("ask(0, 0)", x.ask(0, 0), 1);
        due("ask(0, 1)", x.ask(0, 1), 9);
    }

    /** The same by the document's words, for one plain THING. */
    private static int driftOfOne(int seed, int n, int what) {
        int s = seed, mood = 50, good = 5, out = 0;
        boolean in = true;
        for (int k = 0; k < n; k++) {
            s = s * 1103515245 + 12345;
            int got = (s & 0x7fff0000) / 65536;
            good = (got / 8) % 10;
            if ((got / 128) % 4 == 0) {
                in = true;
                out = 0;
            }
            if (in) {
                in = false;
                out = 3;
            }
            mood = Math.min(99, Math.max(0, mood - 4 + (out > 0 ? good : 0)));
            out = Math.max(0, out - 1);
        }
        return what == 0 ? mood : out > 0 ? 1 : 0;
    }

    private static void drift() {
        start("32 drift");
        due("drift(1, 1, 0), nothing", x.drift(1, 1, 0), STATE);
        due("drift(1, 0, 0), nothing", x.drift(1, 0, 0), BAD);
        with("32 drift", DAY);
        due("drift(7, 9, 0)", x.drift(7, 9, 0), 7);
        due("drift(7, 9, 1)", x.drift(7, 9, 1), 6);
        due("drift(7, 0, 0)", x.drift(7, 0, 0), BAD);
        due("drift(7, 61, 0)", x.drift(7, 61, 0), BAD);
        due("drift(7, 1, 2)", x.drift(7, 1, 2), BAD);
        due("drift(7, 1, -1)", x.drift(7, 1, -1), BAD);
        rules(3, 0, 10, 0, 3, 0, 2);
        things(0, 0, 6, 2);
        things(1, 1, 4, 1);
        things(2, 2, 5, 3);
        with("32 drift, one THING", "plain 5 1;mood 50;tire 4;");
        int[] seeds = {0, 1, -1, 77, -987654, LEAST, MOST};
        int[] spans = {1, 2, 13, 60};
        for (int seed : seeds) {
            for (int n : spans) {
                due("drift(" + seed + ", " + n + ", 0)", x.drift(seed, n, 0), driftOfOne(seed, n, 0));
                due("drift(" + seed + ", " + n + ", 1)", x.drift(seed, n, 1), driftOfOne(seed, n, 1));
            }
        }
    }

    private static void keepAndBack() {
        with("33 keep", DAY);
        due("keep(-1)", x.keep(-1), BAD);
        due("keep(2)", x.keep(2), BAD);
        due("back(-1)", x.back(-1), BAD);
        due("back(2)", x.back(2), BAD);
        due("back(0)", x.back(0), STATE);
        x.hours(2);
        x.see(2, 3);
        due("keep(1)", x.keep(1), 0);
        due("count(1)", x.count(1), 1);
        due("back(0)", x.back(0), STATE);
        x.hours(4);
        x.strap();
        x.lift();
        x.alter(0, 1, 1);
        x.alter(1, 0, 3);
        x.mood(77);
        x.tire(7);
        x.see(4, 4);
        x.see(5, 5);
        due("keep(0)", x.keep(0), 0);
        check.part("34 back");
        due("back(1)", x.back(1), 2);
        rules(3, 2, 4, 0, 1, 6, 2);
        things(0, 0, 6, 2, 4, 4, 26, 0);
        things(1, 1, 4, 1, 1, 3, 24, 2);
        things(2, 2, 5, 3, 6, 0, 15, 3);
        due("count(0)", x.count(0), 1);
        due("count(1)", x.count(1), 2);
        due("back(0)", x.back(0), 6);
        rules(2, 6, 77, 7, 2, 0, 0);
        things(0, 0, 1, 2);
        things(1, 3, 4, 1);
        due("count(0)", x.count(0), 3);
        due("keep(1)", x.keep(1), 1);
        due("back(1)", x.back(1), 6);
        due("rule(0)", x.rule(0), 2);
    }

    private static void sheet() {
        start("35 sheet");
        due("sheet(-1, 0, 1)", x.sheet(-1, 0, 1), BAD);
        due("sheet(4, 0, 1)", x.sheet(4, 0, 1), BAD);
        due("sheet(0, -1, 1)", x.sheet(0, -1, 1), BAD);
        due("sheet(0, 3, 1)", x.sheet(0, 3, 1), BAD);
        due("sheet(0, 0, 41)", x.sheet(0, 0, 41), BAD);
        due("sheet(0, 0, -1)", x.sheet(0, 0, -1), -14);
        due("sheet(0, 0, LEAST)", x.sheet(0, 0, LEAST), -14);
        due("sheet(4, 0, -1)", x.sheet(4, 0, -1), BAD);
        due("sheet(0, 3, -1)", x.sheet(0, 3, -1), BAD);
        due("count(3)", x.count(3), NONE);
        due("sheet(0, 0, 0)", x.sheet(0, 0, 0), 1);
        due("count(3)", x.count(3), 0);
        due("sheet(0, 2, 40)", x.sheet(0, 2, 40), 1);
        due("count(3)", x.count(3), 40);
        due("lay(0, 39, 5)", x.lay(0, 39, 5), 1);
        due("lay(0, 2, 1)", x.lay(0, 2, 1), 1);
        due("read(0, 2, 0, 1)", x.read(0, 2, 0, 1), 1);
        due("sheet(0, 2, -1)", x.sheet(0, 2, -1), -14);
        due("read(0, 2, 0, 1), as it was", x.read(0, 2, 0, 1), 1);
        x.lay(0, 0, 9);
        x.lay(0, 1, 99);
        due("sheet(0, 2, 3)", x.sheet(0, 2, 3), 1);
        due("read(0, 2, 0, 1), of CELLS 0", x.read(0, 2, 0, 1), -20);
        x.lay(0, 2, 8);
        due("read(0, 2, 0, 1)", x.read(0, 2, 0, 1), 1);
        things(2, 0, 0, 8);
    }

    private static void lay() {
        start("36 lay");
        x.sheet(0, 0, 3);
        x.sheet(1, 1, 3);
        x.sheet(2, 2, 3);
        due("lay(-1, 0, 0)", x.lay(-1, 0, 0), BAD);
        due("lay(4, 0, 0)", x.lay(4, 0, 0), BAD);
        due("lay(3, 0, 0)", x.lay(3, 0, 0), -11);
        due("lay(3, -1, 0)", x.lay(3, -1, 0), -11);
        due("lay(0, -1, 0)", x.lay(0, -1, 0), -12);
        due("lay(0, 3, 0)", x.lay(0, 3, 0), -12);
        due("lay(0, MOST, 0)", x.lay(0, MOST, 0), -12);
        x.sheet(3, 0, 0);
        due("lay(3, 0, 0), no CELLS", x.lay(3, 0, 0), -12);
        due("read(3, 0, 0, 1), no CELLS", x.read(3, 0, 0, 1), 0);
        due("torn()", x.torn(), 2);
        int[] lows = {0x1ff00, 0x70000, 0};
        for (int k = 0; k < 3; k++) {
            due("lay(" + k + ", 0, .. 3)", x.lay(k, 0, lows[k] + 3), 1);
            due("lay(" + k + ", 1, .. 9)", x.lay(k, 1, lows[k] + 9), 1);
            due("lay(" + k + ", 2, .. 5)", x.lay(k, 2, lows[k] + 5), 1);
            due("read(" + k + ", " + k + ", 0, 1)", x.read(k, k, 0, 1), 1);
            things(k, 3, 9, 5);
        }
        x.lay(1, 2, 0x105);
        due("a SHORT of 261 is no WEIGHT", x.read(1, 1, 0, 1), -20);
        x.lay(2, 2, 0x10005);
        due("an INT of 65541 is no WEIGHT", x.read(2, 2, 0, 1), -20);
        x.lay(0, 2, 0x85);
        due("a BYTE of -123 is no WEIGHT", x.read(0, 0, 0, 1), -20);
    }

    private static void layRow(int k, int... cells) {
        for (int i = 0; i < cells.length; i++) {
            x.lay(k, i, cells[i]);
        }
    }

    private static void read() {
        start("37 read");
        x.sheet(0, 0, 40);
        due("read(-1, 0, 0, 0)", x.read(-1, 0, 0, 0), BAD);
        due("read(4, 0, 0, 0)", x.read(4, 0, 0, 0), BAD);
        due("read(0, -1, 0, 0)", x.read(0, -1, 0, 0), BAD);
        due("read(0, 3, 0, 0)", x.read(0, 3, 0, 0), BAD);
        due("read(0, 0, 0, -1)", x.read(0, 0, 0, -1), BAD);
        due("read(0, 0, 0, 14)", x.read(0, 0, 0, 14), BAD);
        layRow(0, 7, 0, 1, 2, 1, 3, 4, 2, 5, 6, 3, 9, 9);
        due("read(0, 0, 1, 0)", x.read(0, 0, 1, 0), 0);
        due("read(0, 0, 1, 3)", x.read(0, 0, 1, 3), 3);
        things(0, 0, 1, 2);
        things(1, 1, 3, 4);
        things(2, 2, 5, 6);
        due("read(0, 0, 10, 2), the second is refused", x.read(0, 0, 10, 2), -21);
        due("rule(0)", x.rule(0), 3);
        due("rule(4)", x.rule(4), 3);
        due("read(0, 0, 1, 4)", x.read(0, 0, 1, 4), 4);
        rules(7, 0, 30, 1, 7);
        due("read(0, 0, 1, 1), FULL", x.read(0, 0, 1, 1), -20);
        x.lift();
        due("read(0, 0, 1, 2), FULL at the second", x.read(0, 0, 1, 2), -21);
        due("rule(0)", x.rule(0), 6);
        due("read(0, 0, 39, 1)", x.read(0, 0, 39, 1), 0);
        due("torn()", x.torn(), 2);
        x.hours(1);
        due("read(0, 0, 1, 1), one OUT", x.read(0, 0, 1, 1), -20);
        due("read(0, 0, 38, 1), one OUT", x.read(0, 0, 38, 1), 0);
        rules(6, 1);
        start("37 read, 13 of 40 CELLS");
        x.sheet(2, 1, 40);
        due("read(2, 1, 0, 13)", x.read(2, 1, 0, 13), -20);
        x.sheet(2, 1, 8);
        layRow(2, 0, 5, 5, 1, 6, 6, 2, 7);
        due("read(2, 1, 0, 13): two are whole", x.read(2, 1, 0, 13), 2);
        due("torn()", x.torn(), 2);
        due("rule(0)", x.rule(0), 2);
        x.lay(2, 5, 0);
        due("read(2, 1, 0, 13): refused ahead of the FAULT", x.read(2, 1, 0, 13), -21);
        due("rule(0)", x.rule(0), 2);
    }

    private static void torn() {
        start("38 torn");
        due("torn()", x.torn(), 0);
        x.sheet(1, 1, 3);
        layRow(1, 0, 0, 1);
        due("read(0, 0, 0, 1), nothing", x.read(0, 0, 0, 1), 0);
        due("torn()", x.torn(), 1);
        due("read(1, 2, 0, 1), another lane", x.read(1, 2, 0, 1), 0);
        due("torn()", x.torn(), 3);
        due("read(1, 0, -1, 1), another lane first", x.read(1, 0, -1, 1), 0);
        due("torn()", x.torn(), 3);
        due("read(1, 1, 1, 1)", x.read(1, 1, 1, 1), 0);
        due("torn()", x.torn(), 2);
        due("read(1, 1, 0, 1)", x.read(1, 1, 0, 1), 1);
        due("torn()", x.torn(), 0);
        int[] outside = {-1, 3, LEAST, MOST, MOST - 1, MOST - 2, -3};
        for (int f : outside) {
            due("read(1, 1, " + f + ", 2)", x.read(1, 1, f, 2), 0);
            due("torn()", x.torn(), 2);
        }
        x.lay(1, 2, 0);
        due("read(1, 1, 0, 1), refused", x.read(1, 1, 0, 1), -20);
        due("torn(), as it was", x.torn(), 2);
        due("read(1, 1, 0, 14)", x.read(1, 1, 0, 14), BAD);
        due("torn(), as it was", x.torn(), 2);
        due("read(0, 0, 0, 0), no CELL is read", x.read(0, 0, 0, 0), 0);
        due("torn()", x.torn(), 0);
        x.read(0, 0, 0, 1);
        due("read(1, 2, 9, 0), no CELL is read", x.read(1, 2, 9, 0), 0);
        due("torn()", x.torn(), 0);
    }

    private static void count() {
        with("39 count", DAY);
        due("count(-1)", x.count(-1), BAD);
        due("count(6)", x.count(6), BAD);
        due("count(4)", x.count(4), 15);
        due("count(5)", x.count(5), 6);
        x.hours(9);
        due("count(4), all GONE", x.count(4), 15);
        due("count(5), all GONE", x.count(5), 6);
        x.see(0, 0);
        due("count(0)", x.count(0), 1);
        x.keep(1);
        due("count(1)", x.count(1), 1);
        x.keep(0);
        due("count(1)", x.count(1), 2);
        x.feed(1);
        due("count(2)", x.count(2), 1);
        x.sheet(1, 0, 9);
        due("count(3), of SHEET 0", x.count(3), NONE);
        x.sheet(0, 0, 7);
        due("count(3)", x.count(3), 7);
    }
}
