import java.nio.file.Files;
import java.nio.file.Path;
import java.util.HashMap;
import java.util.Map;
import java.util.Set;
import java.util.TreeSet;
import java.util.regex.Matcher;
import java.util.regex.Pattern;

/** The rules of LANGUAGE.md that can be seen in the words of the source. */
public final class LanguageTest {
    private static final Check check = new Check();
    private static final Set<String> LIBRARY = Set.of("max", "min", "abs", "compare", "bitCount", "arraycopy",
            "length", "charAt");
    private static final Set<String> WORDS = Set.of("if", "for", "while", "switch", "return");
    private static final int DEEPEST = 8;

    public static void main(String[] args) throws Exception {
        String whole = Files.readString(Path.of("src/main/java/HamperDays.java"));
        String code = whole.replaceAll("(?s)/\\*.*?\\*/", "").replaceAll("//[^\n]*", "")
                .replaceAll("\"[^\"]*\"", "\"\"").replaceAll("'[^']'", "' '");
        check.part("language");
        check.holds("signs 1 to 127 alone", whole.chars().allMatch(c -> c > 0 && c < 128));
        none(code, "3, 4 imports", "\\bimport\\b|\\bpackage\\b|\\bjava\\.");
        none(code, "6 words", "\\b(throw|throws|try|catch|finally|synchronized|assert|volatile|transient|native)\\b");
        none(code, "2 lambdas, method references", "->|::");
        none(code, "4 Exact", "\\w+Exact\\b");
        none(code, "5 static blocks", "static\\s*\\{");
        none(code, "2 classes without a name", "\\bnew \\w+\\([^()]*\\) *\\{");
        none(code, "5 static fields of other types", "\\bstatic (?!final (int|class) |(boolean|void|int|long) \\w+\\()");
        none(code, "6 equals, hashCode, toString, getClass", "\\b(hashCode|toString|getClass|equals)\\b");
        none(code, "3 var, Object, wide types", "\\b(var|Object|Long|Short|Byte|Character|Boolean|Double|Float)\\b");
        none(code, "9 loops without an end", "while\\s*\\(\\s*true|for\\s*\\(\\s*;\\s*;");
        none(code, "13 clock, randomness, threads", "\\b(Thread|Random|currentTimeMillis|nanoTime|System\\.(?!arraycopy))\\b?");
        none(code, "4 Math, Integer beyond compare, max, min, abs, bitCount",
                "\\b(Math|Integer)\\.(?!(max|min|abs|compare|bitCount)\\b)\\w+");
        none(code, "10 texts joined by +", "\"\"\\s*\\+|\\+\\s*\"\"");
        lengths(code);
        parameters(code);
        calls(callsByMethod(code));
        check.close();
    }

    private static void none(String code, String rule, String pattern) {
        Matcher m = Pattern.compile(pattern).matcher(code);
        check.holds("rule " + rule, !m.find());
    }

    private static void lengths(String code) {
        int from = -1;
        String[] lines = code.split("\n", -1);
        for (int k = 0; k < lines.length; k++) {
            if (lines[k].matches(" {4,8}\\S.*\\) \\{")) {
                from = k;
            }
            if (lines[k].matches(" {4,8}\\}") && from >= 0) {
                check.holds("rule 11: method at line " + (from + 1) + " is short", k - from <= 60);
                from = -1;
            }
        }
    }

    private static void parameters(String code) {
        Matcher m = Pattern.compile("\\b\\w+\\(([^()]*)\\) \\{").matcher(code);
        while (m.find()) {
            check.holds("rule 11: at most seven parameters: " + m.group(), m.group(1).split(",").length <= 7);
        }
    }

    /** Of each method of the file, by its name, the names that it calls; methods of one name are taken together. */
    private static Map<String, Set<String>> callsByMethod(String code) {
        Map<String, Set<String>> all = new HashMap<>();
        Matcher method = Pattern.compile("(?ms)^( {4}| {8})(?:[a-z]+ )*\\w+(?:\\[\\])? (\\w+)\\([^()]*\\) \\{\n(.*?)^\\1\\}").matcher(code);
        while (method.find()) {
            Set<String> called = all.computeIfAbsent(method.group(2), name -> new TreeSet<>());
            Matcher call = Pattern.compile("(?<!new )\\b(\\w+)\\(").matcher(method.group(3));
            while (call.find()) {
                called.add(call.group(1));
            }
            called.removeAll(WORDS);
        }
        return all;
    }

    private static void calls(Map<String, Set<String>> all) {
        check.holds("methods were found", all.size() > 39);
        all.forEach((name, called) -> {
            for (String other : called) {
                check.holds("rule 4: " + name + " calls " + other, all.containsKey(other) || LIBRARY.contains(other));
            }
            check.holds("rules 8, 11: " + name + " goes too deep", depth(name, all, 0) <= DEEPEST);
        });
    }

    /** How many calls stand open at once at the most; one that comes round to itself is as deep as none may be. */
    private static int depth(String name, Map<String, Set<String>> all, int above) {
        int deepest = 0;
        for (String other : all.getOrDefault(name, Set.of())) {
            deepest = above > DEEPEST ? deepest : Math.max(deepest, depth(other, all, above + 1));
        }
        return deepest + 1;
    }
}
