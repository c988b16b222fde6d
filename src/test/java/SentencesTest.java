import java.io.IOException;
import java.nio.file.DirectoryStream;
import java.nio.file.Files;
import java.nio.file.Path;
import java.util.regex.Matcher;
import java.util.regex.Pattern;

/** Every word of the promises, and of the terms that they rest on, is quoted by a test that looks at what it says. */
public final class SentencesTest {
    private static final Due due = new Due("SentencesTest");
    private static final Pattern QUOTED = Pattern.compile("\\.says\\(\"([^\"]*)\"\\)");

    public static void main(String[] args) throws IOException {
        String document = Files.readString(Path.of("../shared/DOC.md"));
        boolean[] quoted = quoted(document);
        terms(document, quoted);
        promises(document, quoted);
        due.end();
    }

    private static boolean[] quoted(String document) throws IOException {
        boolean[] quoted = new boolean[document.length()];
        try (DirectoryStream<Path> tests = Files.newDirectoryStream(Path.of("src/test/java"), "*Test.java")) {
            for (Path test : tests) {
                Matcher words = QUOTED.matcher(Files.readString(test));
                while (words.find()) {
                    mark(document, words.group(1), quoted);
                }
            }
        }
        return quoted;
    }

    private static void mark(String document, String words, boolean[] quoted) {
        for (int at = document.indexOf(words); at >= 0; at = document.indexOf(words, at + 1)) {
            java.util.Arrays.fill(quoted, at, at + words.length(), true);
        }
    }

    /** The words of a part of the document that no test quotes. */
    private static String unquoted(String document, boolean[] quoted, int from, int to) {
        StringBuilder left = new StringBuilder();
        for (int at = from; at < to; at++) {
            left.append(quoted[at] ? ' ' : document.charAt(at));
        }
        return left.toString().replaceAll("[^A-Za-z0-9]+", " ").trim();
    }

    private static void terms(String document, boolean[] quoted) {
        int from = document.indexOf("## Terms") + "## Terms".length();
        int to = document.indexOf("Ahead of the calls");
        due.holds("there are terms", from > 0 && to > from);
        // what is left are the numbers of the parts and the marks of a text
        String left = unquoted(document, quoted, from, to).replaceAll("\\b(text|[2345])\\b", "").trim();
        due.holds("no test quotes of the terms: " + left, left.isEmpty());
    }

    private static void promises(String document, boolean[] quoted) {
        Matcher promise = Pattern.compile("## Promise (\\d+): [^\n]*\n\n`[^`]*`: ([^\n]*)").matcher(document);
        int found = 0;
        while (promise.find()) {
            found++;
            String left = unquoted(document, quoted, promise.start(2), promise.end(2));
            due.holds("no test quotes of promise " + promise.group(1) + ": " + left, left.isEmpty());
        }
        due.is("promises", found, 52);
    }
}
