import java.io.IOException;
import java.nio.file.Files;
import java.nio.file.Path;
import java.util.regex.Matcher;
import java.util.regex.Pattern;

/** The run of calls that README.md shows: each answers as it stands there. */
public final class ReadmeTest {
    private static final Pattern FED = Pattern.compile("for \\(char c : \"([^\"]*)\"\\.toCharArray\\(\\)\\) \\{");
    private static final Pattern CALL = Pattern.compile("day\\.(\\w+\\([-0-9, ]*\\)); +// (-?\\d+): \\S.*");
    private static final Check check = new Check();

    private final HamperDays day = new HamperDays();
    private String fed = "";

    public static void main(String[] args) throws IOException {
        check.part("readme");
        String[] lines = shown(Files.readString(Path.of("README.md"))).split("\n");
        check.holds("it begins with a new object", lines[0].equals("HamperDays day = new HamperDays();"));
        ReadmeTest test = new ReadmeTest();
        for (int k = 1; k < lines.length; k++) {
            test.take(lines[k]);
        }
        check.close();
    }

    private static String shown(String readme) {
        String[] parts = readme.split("```java\n");
        check.due("blocks of Java", parts.length - 1, 1);
        return parts[1].substring(0, parts[1].indexOf("```"));
    }

    private void take(String line) {
        Matcher loop = FED.matcher(line);
        Matcher call = CALL.matcher(line);
        if (loop.matches()) {
            fed = loop.group(1);
        } else if (line.equals("    day.feed(c);")) {
            fed.chars().forEach(day::feed);
        } else if (call.matches()) {
            check.due(call.group(1), Call.of(call.group(1)).on(day), Long.parseLong(call.group(2)));
        } else {
            check.holds("a line that shows no answer: " + line, line.equals("}"));
        }
    }
}
