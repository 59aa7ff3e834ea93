import java.lang.reflect.InvocationTargetException;
import java.lang.reflect.Method;
import java.lang.reflect.Modifier;
import java.util.ArrayList;
import java.util.Comparator;
import java.util.HashMap;
import java.util.List;
import java.util.Map;
import java.util.Random;

/** Runs of drawn calls, always the same ones, on HamperDays and on the Model: each answer is the same. */
public final class ModelTest {
    private static final int CALLS = 512;
    private static final Check check = new Check();

    private final Random random;
    private final HamperDays x = new HamperDays();
    private final Model model = new Model();
    private final Map<String, Method> ours = methodsOf(HamperDays.class);
    private final Map<String, Method> theirs = methodsOf(Model.class);
    private final List<String> names = new ArrayList<>(ours.keySet());
    private final List<String> lately = new ArrayList<>();
    // In a wild run any number may come; in a tame one most calls are as the document wants them.
    private final boolean wild;
    private int calls = 0;

    private ModelTest(int seed) {
        random = new Random(seed);
        wild = seed % 5 == 0;
        names.sort(Comparator.naturalOrder());
    }

    public static void main(String[] args) throws ReflectiveOperationException {
        int runs = args.length > 0 ? Integer.parseInt(args[0]) : 1500;
        for (int seed = 1; seed <= runs && check.wrong() < 5; seed++) {
            check.part("run " + seed);
            new ModelTest(seed).run();
        }
        check.close();
    }

    private static Map<String, Method> methodsOf(Class<?> type) {
        Map<String, Method> all = new HashMap<>();
        for (Method m : type.getDeclaredMethods()) {
            if (Modifier.isPublic(m.getModifiers()) && !Modifier.isStatic(m.getModifiers())) {
                all.put(m.getName(), m);
            }
        }
        return all;
    }

    private void run() throws ReflectiveOperationException {
        while (calls < CALLS && check.wrong() < 5) {
            int die = random.nextInt(100);
            if (die < 4) {
                tellText();
            } else if (die < 9) {
                layRow();
            } else if (die < 13) {
                seeTruth();
            } else {
                String name = names.get(random.nextInt(names.size()));
                call(name, draw(name));
            }
            if (random.nextInt(8) == 0) {
                lookAtAll();
            }
        }
        lookAtAll();
    }

    private long call(String name, int... args) throws ReflectiveOperationException {
        Object[] values = new Object[args.length];
        StringBuilder told = new StringBuilder(name).append('(');
        for (int k = 0; k < args.length; k++) {
            values[k] = args[k];
            told.append(k == 0 ? "" : ", ").append(args[k]);
        }
        told.append(')');
        calls++;
        long want = ((Number) theirs.get(name).invoke(model, values)).longValue();
        long got;
        try {
            got = ((Number) ours.get(name).invoke(x, values)).longValue();
        } catch (InvocationTargetException e) {
            check.holds(told + " threw " + e.getCause() + " behind " + lately, false);
            return 0;
        }
        lately.add(told + " = " + want);
        if (got != want) {
            check.due(told + " behind " + lately, got, want);
        } else {
            check.due("", got, want);
        }
        return want;
    }

    private void lookAtAll() throws ReflectiveOperationException {
        int before = calls;
        int last = lately.size();
        for (int what = 0; what < 7; what++) {
            call("rule", what);
            for (int i = 0; i < 8; i++) {
                call("thing", i, what);
            }
            call("count", what);
        }
        call("fault");
        call("torn");
        lately.subList(last, lately.size()).clear();
        calls = before;
    }

    // ---- drawn arguments, the bounds just missed now and then

    private int from(int least, int most) {
        int die = random.nextInt(wild ? 8 : 40);
        if (die == 0) {
            return random.nextBoolean() ? least - 1 : most + 1;
        }
        if (die == 1) {
            return random.nextBoolean() ? least : most;
        }
        if (wild && die == 2) {
            int[] odd = {Integer.MIN_VALUE, Integer.MAX_VALUE, random.nextInt(), -random.nextInt(300), Integer.MAX_VALUE - 2};
            return odd[random.nextInt(odd.length)];
        }
        return least + random.nextInt(most - least + 1);
    }

    private int one() {
        return from(0, Math.max(0, model.rule(0) - 1));
    }

    private int moodNear() {
        return random.nextBoolean() ? from(0, 99) : Math.max(0, Math.min(99, model.rule(2) + random.nextInt(31) - 15));
    }

    private int[] draw(String name) {
        switch (name) {
            case "feed": return new int[] {from(0, 127)};
            case "end": return new int[] {from(0, model.count(2))};
            case "rule": return new int[] {from(0, 6)};
            case "thing": return new int[] {one(), from(0, 6)};
            case "alter": return new int[] {one(), from(0, 2), random.nextBoolean() ? from(1, 3) : from(0, 9)};
            case "mood": return new int[] {from(0, 99)};
            case "tire": return new int[] {from(0, 9)};
            case "pack": return new int[] {from(0, 3), from(0, 9), from(1, 9)};
            case "hours": return new int[] {random.nextInt(3) == 0 ? from(0, 30) : random.nextInt(4)};
            case "runs": return new int[] {spanNear(), from(0, 4)};
            case "gone": case "kinds": case "goods": return new int[] {one()};
            case "glad": return new int[] {moodNear()};
            case "order": return new int[] {random.nextInt(4) == 0 ? from(0, 0) : from(10, 14)};
            case "leave": case "top": case "swap": return new int[] {spanNear(), from(0, 1)};
            case "need": return new int[] {one(), spanNear(), moodNear()};
            case "kind": return new int[] {one(), spanNear(), from(0, 1)};
            case "bear": return new int[] {spanNear(), moodNear()};
            case "luck": return new int[] {from(0, 10), odds(), moodNear(), from(0, 1)};
            case "mean": return new int[] {from(0, 10), odds(), from(0, 1)};
            case "see": return new int[] {from(0, 20), moodNear()};
            case "forget": return new int[] {from(0, model.count(0))};
            case "ask": return new int[] {one(), from(0, 1)};
            case "drift": return new int[] {random.nextInt(), from(1, 60), from(0, 1)};
            case "keep": case "back": return new int[] {from(0, 1)};
            case "sheet": return new int[] {from(0, 3), from(0, 2), from(0, 40)};
            case "lay": return new int[] {from(0, 3), from(0, 39), random.nextInt(3) == 0 ? random.nextInt() : from(0, 3)};
            case "read": return new int[] {from(0, 3), from(0, 2), from(0, 20), from(0, 13)};
            case "count": return new int[] {from(0, 5)};
            default: return new int[0];
        }
    }

    private int spanNear() {
        return random.nextInt(3) == 0 ? from(0, 60) : random.nextInt(12);
    }

    private int odds() {
        return random.nextInt(4) == 0 ? from(0, 8) : random.nextInt(5);
    }

    // ---- whole errands, which calls drawn one by one would seldom make

    private void tellText() throws ReflectiveOperationException {
        StringBuilder text = new StringBuilder();
        int lines = random.nextInt(10);
        for (int k = 0; k < lines; k++) {
            text.append(line());
        }
        int faults = random.nextInt(3) == 0 ? 1 + random.nextInt(2) : 0;
        for (int k = 0; k < faults && text.length() > 0; k++) {
            spoil(text);
        }
        call("end", 0);
        for (int k = 0; k < text.length() && k < 165; k++) {
            call("feed", text.charAt(k));
        }
        call("text");
        call("fault");
    }

    private String line() {
        String[] words = {"plain", "glass", "shower", "view", "plain", "glass", "shower", "view", "mood", "tire"};
        String word = words[random.nextInt(words.length)];
        String gap = " ".repeat(random.nextInt(10) == 0 ? 2 : random.nextInt(2));
        if (word.equals("mood") || word.equals("tire")) {
            return word + gap + random.nextInt(word.equals("mood") ? 100 : 10) + ";";
        }
        return word + gap + random.nextInt(10) + " " + (1 + random.nextInt(9)) + gap + ";";
    }

    private void spoil(StringBuilder text) {
        int at = random.nextInt(text.length());
        String signs = " ;;09123plainmodtreA!\u0000\u007f";
        char sign = signs.charAt(random.nextInt(signs.length()));
        switch (random.nextInt(4)) {
            case 0: text.setCharAt(at, sign); break;
            case 1: text.insert(at, sign); break;
            case 2: text.deleteCharAt(at); break;
            default: text.setLength(at); break;
        }
    }

    private void layRow() throws ReflectiveOperationException {
        int k = random.nextInt(4);
        int lane = random.nextInt(3);
        int f = random.nextInt(3);
        int n = 1 + random.nextInt(4);
        call("sheet", k, lane, f + 3 * n - (random.nextInt(3) == 0 ? 1 : 0));
        int[] shift = {0, 256, 65536, -256};
        for (int i = 0; i < n; i++) {
            call("lay", k, f + 3 * i, random.nextInt(20) == 0 ? 4 : random.nextInt(4));
            call("lay", k, f + 3 * i + 1, random.nextInt(20) == 0 ? 10 : random.nextInt(10));
            int weight = random.nextInt(20) == 0 ? 0 : 1 + random.nextInt(9);
            call("lay", k, f + 3 * i + 2, weight + shift[random.nextInt(6) == 0 ? random.nextInt(4) : 0]);
        }
        if (random.nextBoolean()) {
            call("strap");
        }
        call("read", k, random.nextInt(8) == 0 ? random.nextInt(3) : lane, f, n + random.nextInt(2));
        call("torn");
    }

    private void seeTruth() throws ReflectiveOperationException {
        if (random.nextBoolean()) {
            call("forget", 0);
        }
        int n = random.nextInt(12);
        int i = model.rule(0) == 0 ? 0 : random.nextInt(model.rule(0));
        call("see", n, (int) call("runs", n, 0));
        call("kinds", i);
        call("goods", i);
        call("ask", i, 0);
        call("ask", i, 1);
    }
}
