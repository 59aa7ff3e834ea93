import java.lang.reflect.Constructor;
import java.lang.reflect.Field;
import java.lang.reflect.Member;
import java.lang.reflect.Method;
import java.lang.reflect.Modifier;
import java.nio.file.Files;
import java.nio.file.Path;
import java.util.ArrayList;
import java.util.Arrays;
import java.util.List;
import java.util.Set;
import java.util.TreeSet;

/** The public face is that of the document, and nothing else can be seen (LANGUAGE.md, rules 1, 2, 5, 11). */
public final class FaceTest {
    private static final Check check = new Check();

    public static void main(String[] args) throws Exception {
        check.part("face");
        Set<String> due = faceOf(Files.readString(Path.of("../shared/DOC.md")));
        Set<String> got = new TreeSet<>();
        Class<?> type = HamperDays.class;
        for (Method m : type.getDeclaredMethods()) {
            if (isSeen(m)) {
                got.add(told(m));
            }
        }
        for (Constructor<?> c : type.getDeclaredConstructors()) {
            check.holds("one public constructor without parameters", Modifier.isPublic(c.getModifiers()) && c.getParameterCount() == 0);
            got.add("HamperDays()");
        }
        check.holds("due but not there: " + less(due, got), less(due, got).isEmpty());
        check.holds("there but not due: " + less(got, due), less(got, due).isEmpty());
        check.due("how many", got.size(), 39);
        check.holds("public and final", type.getModifiers() == (Modifier.PUBLIC | Modifier.FINAL));
        check.holds("no package", type.getPackageName().isEmpty());
        constants();
        namesOfMethods();
        classesInside();
        check.close();
    }

    private static boolean isSeen(Member m) {
        return !Modifier.isPrivate(m.getModifiers()) && !m.isSynthetic();
    }

    private static String told(Method m) {
        return m.getReturnType() + " " + m.getName() + Arrays.toString(m.getParameterTypes());
    }

    private static Set<String> less(Set<String> a, Set<String> b) {
        Set<String> rest = new TreeSet<>(a);
        rest.removeAll(b);
        return rest;
    }

    /** The lines of the document's Java block. */
    private static Set<String> faceOf(String doc) {
        Set<String> face = new TreeSet<>();
        String block = doc.substring(doc.indexOf("```java"), doc.indexOf("```", doc.indexOf("```java") + 3));
        for (String line : block.split("\n")) {
            String call = line.strip().replace("public ", "").replace(";", "");
            if (call.startsWith("HamperDays(")) {
                face.add("HamperDays()");
            } else if (call.startsWith("int ") || call.startsWith("long ")) {
                String in = call.substring(call.indexOf('(') + 1, call.indexOf(')'));
                String[] types = in.isEmpty() ? new String[0] : in.replaceAll(" \\w+(?=,|$)", "").split(", ");
                face.add(call.substring(0, call.indexOf('(')) + Arrays.toString(types));
            }
        }
        return face;
    }

    private static void constants() throws IllegalAccessException {
        List<String> seen = new ArrayList<>();
        for (Field f : HamperDays.class.getDeclaredFields()) {
            if (isSeen(f)) {
                check.holds(f.getName() + " is public static final int",
                        f.getModifiers() == (Modifier.PUBLIC | Modifier.STATIC | Modifier.FINAL) && f.getType() == int.class);
                seen.add(f.getName() + " " + f.getInt(null));
            }
        }
        check.holds("constants: " + seen, seen.equals(List.of("BAD -1", "STATE -2", "FULL -3", "NONE -4")));
    }

    private static void namesOfMethods() {
        Set<String> open = new TreeSet<>();
        Set<String> hidden = new TreeSet<>();
        for (Method m : HamperDays.class.getDeclaredMethods()) {
            (isSeen(m) ? open : hidden).add(m.getName());
        }
        for (Class<?> inside : HamperDays.class.getDeclaredClasses()) {
            for (Method m : inside.getDeclaredMethods()) {
                hidden.add(m.getName());
            }
        }
        hidden.retainAll(open);
        check.holds("inside methods with names of public ones: " + hidden, hidden.isEmpty());
    }

    private static void classesInside() {
        Class<?>[] inside = HamperDays.class.getDeclaredClasses();
        check.holds("at most twelve classes", inside.length < 12);
        for (Class<?> type : inside) {
            int mods = type.getModifiers();
            check.holds(type + " is static", Modifier.isStatic(mods));
            check.holds(type + " is not public or protected", !Modifier.isPublic(mods) && !Modifier.isProtected(mods));
            fields(type);
        }
        fields(HamperDays.class);
    }

    private static void fields(Class<?> type) {
        int count = 0;
        for (Field f : type.getDeclaredFields()) {
            boolean isStatic = Modifier.isStatic(f.getModifiers());
            check.holds(f + " is final, being static", !isStatic || Modifier.isFinal(f.getModifiers()));
            count += isStatic ? 0 : 1;
        }
        check.holds(type + " has some twenty fields at most", count <= 20);
    }
}
