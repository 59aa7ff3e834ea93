import java.lang.reflect.InvocationTargetException;
import java.lang.reflect.Method;
import java.lang.reflect.Modifier;
import java.util.Arrays;
import java.util.HashMap;
import java.util.Map;
import java.util.Set;

/** One call of the face, written as in the document: "runs(60, 0)". */
record Call(String name, int... args) {
    private static final Map<String, Method> METHODS = methods();
    private static final Set<String> CHANGING = Set.of("feed", "end", "text", "alter", "mood", "tire", "pack",
            "strap", "lift", "hours", "see", "forget", "keep", "back", "sheet", "lay", "read");

    private static Map<String, Method> methods() {
        Map<String, Method> all = new HashMap<>();
        for (Method m : HamperDays.class.getDeclaredMethods()) {
            if (Modifier.isPublic(m.getModifiers())) {
                all.put(m.getName(), m);
            }
        }
        return all;
    }

    static Call of(String told) {
        int open = told.indexOf('(');
        String inside = told.substring(open + 1, told.lastIndexOf(')')).trim();
        String[] words = inside.isEmpty() ? new String[0] : inside.split(" *, *");
        return new Call(told.substring(0, open).trim(), Arrays.stream(words).mapToInt(Call::number).toArray());
    }

    static int number(String word) {
        switch (word) {
            case "LEAST": return Integer.MIN_VALUE;
            case "MOST": return Integer.MAX_VALUE;
            default: return Integer.decode(word);
        }
    }

    Call with(int at, int v) {
        int[] others = args.clone();
        others[at] = v;
        return new Call(name, others);
    }

    /** A call that only asks changes nothing, whatever it answers. */
    boolean asksOnly() {
        return !CHANGING.contains(name);
    }

    long on(HamperDays x) {
        Object[] values = Arrays.stream(args).boxed().toArray();
        try {
            return ((Number) METHODS.get(name).invoke(x, values)).longValue();
        } catch (InvocationTargetException e) {
            throw new IllegalStateException(this + " threw " + e.getCause(), e);
        } catch (IllegalAccessException e) {
            throw new IllegalStateException(e);
        }
    }

    @Override
    public String toString() {
        return name + Arrays.toString(args).replace('[', '(').replace(']', ')');
    }
}
