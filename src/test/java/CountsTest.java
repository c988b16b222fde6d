/** Promises 1 to 7. */
public final class CountsTest {
    private static final Due due = new Due("CountsTest");

    public static void main(String[] args) {
        newObject();
        countBy();
        countByOrder();
        begins();
        about();
        place();
        number();
        value();
        due.end();
    }

    private static void newObject() {
        ArmCounts x = new ArmCounts();
        int[] want = {0, 0, 30, 0, 0, 0, 0, 0, 0};
        for (int what = 0; what < want.length; what++) {
            due.is("new count(" + what + ")", x.count(what), want[what]);
        }
        for (int s = 0; s < 4; s++) {
            due.is("new lose(" + s + ")", x.lose(s), -11);
        }
        due.is("new about", x.about(0, 0), ArmCounts.BAD);
        due.is("new word", x.word(0, 0), ArmCounts.BAD);
        due.is("new worth", x.worth(0), -100000);
        due.is("new fault", x.fault(), 0);
        due.is("new solutions", x.solutions(), 27000);
        ArmCounts y = new ArmCounts();
        Due.count(y, true, 1, 2);
        due.is("objects are apart", new ArmCounts().count(0), 0);
        long h = 17;
        for (int v : new int[] {0, 0, 30, 0, 0, 0, 0, 0, 27000}) {
            h = 31 * h + v;
        }
        due.is("new digest", new ArmCounts().digest(), h);
        due.is("NONE", ArmCounts.NONE, -1);
        due.is("BAD", ArmCounts.BAD, -2);
        due.is("NOT", ArmCounts.NOT, -3);
        due.is("FULL", ArmCounts.FULL, -4);
    }

    private static void countBy() {
        ArmCounts x = new ArmCounts();
        due.is("lost sheet", x.countBy(0, 1, false), -11);
        due.is("count(8)", x.count(8), 1);
        due.is("no such sheet below", x.countBy(-1, 1, false), -2);
        due.is("no such sheet above", x.countBy(4, 1, false), -2);
        due.is("m 0 of a lost one", x.countBy(0, 0, false), -2);
        due.is("m 21 of a lost one", x.countBy(0, 21, false), -2);
        due.is("BAD leaves count(8)", x.count(8), 1);
        Due.sheet(x, 0, 2, Due.row(21, 79));
        due.is("m 21", x.countBy(0, 21, false), -2);
        due.is("20 and a nose", x.countBy(0, 20, true), 0);
        due.is("T", x.about(0, 0), 41);
        due.is("word 99", x.place(0, 21, 0), 99);
        for (int k = 1; k <= 41; k++) {
            due.is("word at " + k + " of 41", x.place(0, k, 0), k <= 21 ? 78 + k : 120 - k);
        }
        due.is("m 1", x.countBy(0, 1, false), 1);
        due.is("T of m 1", x.about(1, 0), 2);
        due.is("both places of m 1", x.place(1, 1, 0) * 100 + x.place(1, 2, 0), 7979);
        x.put(0, 2, 20, 100);
        due.is("nose is no word", x.countBy(0, 20, true), -3);
        x.put(0, 2, 20, -1);
        due.is("nose below 0", x.countBy(0, 20, true), -3);
        x.put(0, 2, 20, 80);
        due.is("nose as another", x.countBy(0, 20, true), -3);
        due.is("without the nose", x.countBy(0, 20, false), 2);
        x.put(0, 2, 0, 100);
        due.is("the first is no word", x.countBy(0, 3, false), -3);
        Due.sheet(x, 1, 1, 4, 5, 6);
        due.is("not so many items", x.countBy(1, 4, false), -12);
        due.is("no item for a nose", x.countBy(1, 3, true), -12);
        due.is("count(8) INDEX", x.count(8), 2);
        due.is("counts of shorts", x.countBy(1, 2, true), 3);
        x.put(1, 1, 0, 9);
        due.is("a count keeps its words", x.place(3, 1, 0), 4);
        due.is("how many", x.count(0), 4);
        due.is("fifth", x.countBy(1, 1, false), 4);
        due.is("sixth", x.countBy(1, 1, true), 5);
        due.is("seventh", x.countBy(1, 1, false), -4);
        due.is("six", x.count(0), 6);
    }

    /** The order of the promise's own list: BAD, NULL, INDEX, NOT, FULL. */
    private static void countByOrder() {
        ArmCounts x = new ArmCounts();
        Due.sheet(x, 0, 2, 7, 7, 1);
        due.is("NOT", x.countBy(0, 3, false), -3);
        due.is("no finding", x.count(8), 0);
        due.is("INDEX ahead of NOT", x.countBy(0, 4, false), -12);
        due.is("count(8)", x.count(8), 2);
        due.is("INDEX of the nose ahead of NOT", x.countBy(0, 3, true), -12);
        due.is("NULL ahead of INDEX", x.countBy(2, 4, false), -11);
        due.is("BAD ahead of INDEX", x.countBy(0, 21, false), -2);
        due.is("count(8) is left by BAD", x.count(8), 1);
        Due.sheet(x, 1, 2, 1, 2, 3);
        for (int i = 0; i < 6; i++) {
            x.countBy(1, 3, false);
        }
        due.is("NOT ahead of FULL", x.countBy(0, 3, false), -3);
        due.is("FULL", x.countBy(1, 3, false), -4);
        due.is("FULL is no finding", x.count(8), 1);
        due.is("INDEX ahead of FULL", x.countBy(1, 4, false), -12);
        due.is("INDEX of the nose ahead of FULL", x.countBy(1, 3, true), -12);
        due.is("INDEX ahead of NOT and FULL", x.countBy(0, 4, false), -12);
        due.is("six", x.count(0), 6);
        due.is("NULL ahead of FULL", x.countBy(2, 4, false), -11);
        due.is("BAD ahead of NULL", x.countBy(2, 0, false), -2);
        due.is("BAD ahead of FULL", x.countBy(1, 21, false), -2);
    }

    private static void begins() {
        ArmCounts x = new ArmCounts();
        due.is("no count", x.begins(0, 0), -2);
        Due.count(x, true, 1, 2, 3);
        Due.count(x, true, 1, 2, 3);
        due.is("at first", x.begins(0, 1), 0);
        due.is("again", x.begins(0, 1), 1);
        due.is("hand 2", x.begins(0, 2), -2);
        due.is("hand NONE", x.begins(0, -1), -2);
        due.is("count below", x.begins(-1, 0), -2);
        due.is("count above", x.begins(2, 0), -2);
        due.is("still", x.about(0, 3), 1);
        due.is("the other count", x.about(1, 3), 0);
        due.is("side 0 hand", x.place(0, 1, 2), 1);
        due.is("side 1 hand", x.place(0, 5, 2), 0);
        due.is("nose hand", x.place(0, 3, 2), 2);
        due.is("back", x.begins(0, 0), 1);
        due.is("side 0 hand again", x.place(0, 1, 2), 0);
    }

    private static void about() {
        ArmCounts x = new ArmCounts();
        Due.count(x, false, 1, 2, 3, 4);
        Due.count(x, true, 5, 6);
        x.begins(1, 1);
        int[][] want = {{8, 4, 0, 0}, {3, 1, 1, 1}};
        for (int c = 0; c < 2; c++) {
            for (int what = 0; what < 4; what++) {
                due.is("about(" + c + ", " + what + ")", x.about(c, what), want[c][what]);
            }
        }
        due.is("what -1", x.about(0, -1), -2);
        due.is("what 4", x.about(0, 4), -2);
        due.is("count -1", x.about(-1, 0), -2);
        due.is("count 2", x.about(2, 0), -2);
    }

    private static void place() {
        ArmCounts x = new ArmCounts();
        Due.count(x, false, 10, 20, 30);
        Due.count(x, true, 10, 20, 30);
        int[][] words = {{10, 20, 30, 30, 20, 10}, {10, 20, 30, 20, 10}};
        int[][] sides = {{0, 0, 0, 1, 1, 1}, {0, 0, 2, 1, 1}};
        for (int c = 0; c < 2; c++) {
            for (int k = 1; k <= words[c].length; k++) {
                due.is("word at " + k, x.place(c, k, 0), words[c][k - 1]);
                due.is("side at " + k, x.place(c, k, 1), sides[c][k - 1]);
                due.is("hand at " + k, x.place(c, k, 2), sides[c][k - 1]);
            }
        }
        due.is("place 0", x.place(0, 0, 0), -2);
        due.is("place 7", x.place(0, 7, 0), -2);
        due.is("place 6 of 5", x.place(1, 6, 0), -2);
        due.is("what -1", x.place(0, 1, -1), -2);
        due.is("what 3", x.place(0, 1, 3), -2);
        due.is("count 2", x.place(2, 1, 0), -2);
        due.is("count -1", x.place(-1, 1, 0), -2);
        due.is("least int", x.place(0, Integer.MIN_VALUE, 0), -2);
    }

    private static void number() {
        ArmCounts x = new ArmCounts();
        int[] words = {10, 20, 30, 20, 10};
        int[] hands = {0, 0, 2, 1, 1};
        for (int n = 1; n <= 400; n++) {
            int k = (n - 1) % 5;
            if (n % 100 == 1) {
                // an object is used for at most 512 calls
                x = new ArmCounts();
                Due.count(x, true, 10, 20, 30);
            }
            due.is("men of " + n, x.number(0, n, 0), (n - 1) / 5);
            due.is("place of " + n, x.number(0, n, 1), k + 1);
            due.is("word of " + n, x.number(0, n, 2), words[k]);
            due.is("hand of " + n, x.number(0, n, 3), hands[k]);
        }
        due.is("0", x.number(0, 0, 0), -2);
        due.is("401", x.number(0, 401, 0), -2);
        due.is("what 4", x.number(0, 1, 4), -2);
        due.is("what -1", x.number(0, 1, -1), -2);
        due.is("count 1", x.number(1, 1, 0), -2);
        due.is("count -1", x.number(-1, 1, 0), -2);
    }

    private static void value() {
        ArmCounts x = new ArmCounts();
        Due.count(x, true, Due.row(21, 0));
        due.is("first", x.value(0, 0, 1), 1);
        due.is("last of one man", x.value(0, 0, 41), 41);
        due.is("last of all", x.value(0, 20, 41), 861);
        due.is("7 men", x.value(0, 7, 3), 290);
        due.is("men -1", x.value(0, -1, 1), -2);
        due.is("men 21", x.value(0, 21, 1), -2);
        due.is("place 0", x.value(0, 0, 0), -2);
        due.is("place 42", x.value(0, 0, 42), -2);
        due.is("count 1", x.value(1, 0, 1), -2);
        due.is("count -1", x.value(-1, 0, 1), -2);
    }
}
