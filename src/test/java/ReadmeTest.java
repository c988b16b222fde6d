import java.io.IOException;
import java.nio.file.Files;
import java.nio.file.Path;
import java.util.regex.Matcher;
import java.util.regex.Pattern;

/** README.md: its examples answer what stands behind them, and it names every call. */
public final class ReadmeTest {
    private static final Due due = new Due("ReadmeTest");
    private static final Path README = Path.of("README.md");
    private static final Pattern BLOCK = Pattern.compile("(?s)```java\n(.*?)```");
    private static final Pattern CALL = Pattern.compile("x\\.(\\w+)\\((.*?)\\); +// (-?\\d+)(: .*)?");

    public static void main(String[] args) throws IOException {
        String page = Files.readString(README);
        examples(page);
        names(page);
        commands(page);
        due.end();
    }

    private static void examples(String page) {
        Face x = new Face();
        Matcher block = BLOCK.matcher(page);
        while (block.find()) {
            for (String line : block.group(1).split("\n")) {
                if (!line.equals("ArmCounts x = new ArmCounts();")) {
                    example(x, line);
                }
            }
        }
    }

    private static void example(Face x, String line) {
        Matcher call = CALL.matcher(line);
        due.holds("a call and its answer: " + line, call.matches());
        if (call.matches()) {
            due.is(line, x.call(call.group(1), arguments(call.group(2))), Long.parseLong(call.group(3)));
        }
    }

    private static Object[] arguments(String told) {
        String[] words = told.isEmpty() ? new String[0] : told.split(", ");
        Object[] arguments = new Object[words.length];
        for (int i = 0; i < words.length; i++) {
            arguments[i] = argument(words[i]);
        }
        return arguments;
    }

    private static Object argument(String word) {
        if (word.equals("true") || word.equals("false")) {
            return word.equals("true");
        }
        if (word.equals("ArmCounts.NONE")) {
            return ArmCounts.NONE;
        }
        return word.startsWith("'") ? (int) word.charAt(1) : Integer.parseInt(word);
    }

    /** Each call stands in a heading and in an example. */
    private static void names(String page) {
        for (String name : Face.methods().keySet()) {
            due.holds(name + " stands in a heading", page.matches("(?s).*\n### [^\n]*`" + name + "`.*"));
            due.holds(name + " has an example", page.contains("\nx." + name + "("));
        }
    }

    private static void commands(String page) {
        due.holds("it says how to run the tests", page.contains("\n.ci/run\n"));
        due.holds("which are there", Files.isExecutable(Path.of(".ci/run")));
    }
}
