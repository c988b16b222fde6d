import java.io.IOException;
import java.io.UncheckedIOException;
import java.nio.file.Files;
import java.nio.file.Path;

/** What a test saw: prints each answer that is not the one that is due. */
final class Due {
    private static final String DOCUMENT = read(Path.of("../shared/DOC.md"));

    private final String test;
    private String sentence = "";
    private int seen;
    private int wrong;

    Due(String test) {
        this.test = test;
    }

    private static String read(Path path) {
        try {
            return Files.readString(path);
        } catch (IOException e) {
            throw new UncheckedIOException(e);
        }
    }

    /** The words of the document that the answers to come are about: they must stand there, so that none is made up. */
    void says(String words) {
        sentence = words;
        holds("the document says so", DOCUMENT.contains(words));
    }

    void is(String call, long got, long want) {
        seen++;
        if (got != want) {
            wrong++;
            String quoted = sentence.isEmpty() ? "" : "\"" + sentence + "\": ";
            System.out.println(test + ": " + quoted + call + " answered " + got + ", due is " + want);
        }
    }

    void holds(String what, boolean so) {
        is(what, so ? 1 : 0, 1);
    }

    int wrong() {
        return wrong;
    }

    void end() {
        System.out.println(test + ": " + seen + " answers, " + wrong + " not as due");
        if (wrong != 0 || seen == 0) {
            System.exit(1);
        }
    }

    /** Makes a SHEET of a FORM with these items. */
    static void sheet(ArmCounts x, int s, int form, int... items) {
        x.sheet(s, form, items.length);
        for (int i = 0; i < items.length; i++) {
            x.put(s, form, i, items[i]);
        }
    }

    /** A COUNT of these WORDS, the last one being the NOSE, if it has one. */
    static int count(ArmCounts x, boolean nose, int... words) {
        sheet(x, 3, 0, words);
        int c = x.countBy(3, nose ? words.length - 1 : words.length, nose);
        x.lose(3);
        return c;
    }

    /** A LIST of a YEAR. */
    static int list(ArmCounts x, int year, int... words) {
        sheet(x, 3, 2, words);
        int l = x.list(3, words.length, year);
        x.lose(3);
        return l;
    }

    static void type(ArmCounts x, String text) {
        x.hush();
        for (int i = 0; i < text.length(); i++) {
            x.type(text.charAt(i));
        }
    }

    static int[] row(int n, int from) {
        int[] row = new int[n];
        for (int i = 0; i < n; i++) {
            row[i] = from + i;
        }
        return row;
    }
}
