import java.io.IOException;
import java.nio.file.Files;
import java.nio.file.Path;
import java.util.HashSet;
import java.util.List;
import java.util.Set;
import java.util.regex.Matcher;
import java.util.regex.Pattern;

/** The examples of README.md: each call answers what stands behind it, and no method is left out. */
public final class ReadmeTest {
    private static final Pattern CALL = Pattern.compile("x\\.(\\w+)\\((.*)\\); +// (throws \\w+|[-\\w]+)(:.*)?");
    private static PatternJudge x;

    public static void main(String[] args) throws IOException {
        Set<String> called = new HashSet<>();
        boolean inside = false;
        for (String line : Files.readAllLines(Path.of("README.md"))) {
            if (line.startsWith("```")) {
                inside = line.equals("```java");
            } else if (inside && line.equals("PatternJudge x = new PatternJudge();")) {
                x = new PatternJudge();
                called.add("PatternJudge");
            } else if (inside) {
                Matcher m = CALL.matcher(line);
                Check.due("an example that can be read: " + line, m::matches, true);
                if (m.matches()) {
                    called.add(m.group(1));
                    String[] given = m.group(2).isEmpty() ? new String[0] : m.group(2).split(", ");
                    Check.due(line, () -> answer(m.group(1), given), m.group(3).replace("throws ", ""));
                }
            }
        }
        List<String> all = List.of("PatternJudge", "letters", "letter", "clear", "size", "matches", "longest", "first");
        Check.due("the methods that have an example", () -> called, new HashSet<>(all));
        Check.end("ReadmeTest");
    }

    private static Object answer(String name, String[] given) {
        switch (name) {
            case "letters":
                return x.letters(Boolean.parseBoolean(given[0]), number(given[1].replace("L", "")));
            case "letter":
                return x.letter(Boolean.parseBoolean(given[0]), (int) number(given[1]));
            case "clear":
                x.clear(Boolean.parseBoolean(given[0]));
                return "nothing";
            case "size":
                return x.size();
            case "matches":
                return x.matches();
            case "longest":
                return x.longest((int) number(given[0]));
            case "first":
                return x.first();
            default:
                return "no such method";
        }
    }

    private static long number(String text) {
        return text.startsWith("'") ? text.charAt(1) : Long.decode(text);
    }
}
