/**
 * Each argument of each call that the document bounds: the least and the most that it may be are no BAD, one less and
 * one more are, and so are the least and the greatest int; what is BAD changes nothing.
 */
public final class BoundsTest {
    private static final Due due = new Due("BoundsTest");
    private static final int LEAST = World.LEAST, MOST = World.MOST;
    private static World world;

    public static void main(String[] args) {
        world = World.SOME;
        counts(1, 5);
        meanings(1);
        trade(1, 2);
        lists(2, 4);
        tales(1);
        sheets(1);
        world = World.CROWDED;
        counts(5, 2);
        meanings(5);
        trade(5, 7);
        lists(7, 20);
        tales(5);
        sheets(5);
        world = World.EMPTY;
        nothingYet();
        due.end();
    }

    /** The argument at a place of a call, all others being as they may be, goes from low to high. */
    private static void range(int low, int high, int at, String name, Object... arguments) {
        for (int v : new int[] {low, high}) {
            Object[] inside = arguments.clone();
            inside[at] = v;
            due.holds(world + ": " + told(name, inside) + " is not BAD", world.make().call(name, inside) != Face.bad(name));
        }
        if (low > LEAST) {
            outside(LEAST, at, name, arguments);
            outside(low - 1, at, name, arguments);
        }
        if (high < MOST) {
            outside(high + 1, at, name, arguments);
            outside(MOST, at, name, arguments);
        }
    }

    private static String told(String name, Object... arguments) {
        return name + java.util.Arrays.toString(arguments);
    }

    private static void outside(int v, int at, String name, Object... arguments) {
        Object[] wrong = arguments.clone();
        wrong[at] = v;
        world.refuses(due, Face.bad(name), name, wrong);
    }

    /** c is the last COUNT, t the PLACES of COUNT 0. */
    private static void counts(int c, int t) {
        due.says("`int countBy(int s, int m, boolean nose)`");
        range(0, 3, 0, "countBy", 0, 2, false);
        range(1, 20, 1, "countBy", 0, 2, false);
        range(1, 20, 1, "countBy", 0, 2, true);
        due.says("A COUNT begins on a HAND (0, 1): on which it did. BAD.");
        range(0, c, 0, "begins", 0, 1);
        range(0, 1, 1, "begins", 0, 1);
        due.says("Of a COUNT: 0 T, 1 M, 2 whether it has a NOSE, 3 HAND on which it begins. BAD.");
        range(0, c, 0, "about", 0, 0);
        range(0, 3, 1, "about", 0, 0);
        due.says("Of PLACE k of a COUNT: 0 WORD, 1 SIDE, 2 HAND. BAD.");
        range(0, c, 0, "place", 0, 1, 0);
        range(1, t, 1, "place", 0, 1, 0);
        range(0, 2, 2, "place", 0, 1, 0);
        due.says("Of N (1 to 400) by a COUNT: 0 MEN, 1 PLACE, 2 WORD, 3 HAND. BAD.");
        range(0, c, 0, "number", 0, 1, 0);
        range(1, 400, 1, "number", 0, 1, 0);
        range(0, 3, 2, "number", 0, 1, 0);
        due.says("The number of PLACE k and MEN (0 to 20) by a COUNT. BAD.");
        range(0, c, 0, "value", 0, 0, 1);
        range(0, 20, 1, "value", 0, 0, 1);
        range(1, t, 2, "value", 0, 0, 1);
    }

    private static void meanings(int c) {
        due.says("How many MEANINGS. BAD: COUNT, WORD, HAND, MEN, MOST.");
        point(c, 0, "meanings", 0, 11, -1, -1, 10);
        range(1, 400, 4, "meanings", 0, 11, -1, -1, 10);
        due.says("The i-th MEANING up to 400; NONE. BAD: also i below 0.");
        point(c, 0, "meaning", 0, 11, -1, -1, 0);
        range(0, MOST, 4, "meaning", 0, 11, -1, -1, 0);
        due.says("MAT: what it was. BAD.");
        range(1, 40, 0, "mat", 5);
        due.says("A CLUE more: a POINT of an UNKNOWN: how many CLUES. BAD; FULL.");
        range(0, 2, 0, "clue", 0, 0, 11, -1, -1);
        point(c, 1, "clue", 0, 0, 11, -1, -1);
        due.says("A CLUE more: SUM. BAD; FULL.");
        for (int at = 0; at < 3; at++) {
            range(0, 2, at, "sum", 0, 1, 2);
        }
        due.says("A CLUE more: LESS. BAD: also i is j; FULL.");
        range(0, 2, 0, "less", 0, 1);
        range(0, 2, 1, "less", 1, 0);
        for (int u = 0; u < 3; u++) {
            outside(u, 1, "less", u, 0);
        }
        due.says("A CLUE more: MATS (n 1 to m, m to 40). BAD; FULL.");
        range(0, 2, 0, "mats", 0, 1, 2);
        range(1, 7, 1, "mats", 0, 1, 7);
        range(1, 40, 1, "mats", 0, 1, 40);
        range(7, 40, 2, "mats", 0, 7, 9);
        range(1, 40, 2, "mats", 0, 1, 9);
        due.says("UNKNOWN u in SOLUTION i; NONE: there is no such one. BAD: i below 0, u 0 to 2.");
        range(0, MOST, 0, "solution", 0, 0);
        range(0, 2, 1, "solution", 0, 0);
        range(0, 2, 1, "solution", MOST, 0);
        due.says("NONE: there are several; NOT: there is no SOLUTION. BAD.");
        range(0, 2, 0, "sure", 0);
    }

    private static void point(int c, int at, String name, Object... arguments) {
        range(0, c, at, name, arguments);
        range(0, 99, at + 1, name, arguments);
        range(-1, 2, at + 2, name, arguments);
        range(-1, 20, at + 3, name, arguments);
    }

    /** p is the last PERSON. */
    private static void trade(int c, int p) {
        due.says("HEARD. BAD: COUNTS, N 1 to 400.");
        range(0, c, 0, "heard", 0, 1, 1);
        range(0, c, 1, "heard", 1, 0, 1);
        range(1, 400, 2, "heard", 0, 1, 1);
        due.says("How many are CLEAR up to a MOST. BAD.");
        range(0, c, 0, "clear", 0, 1, 1);
        range(0, c, 1, "clear", 1, 0, 1);
        range(1, 400, 2, "clear", 0, 1, 1);
        due.says("The first number (1 to 400) that is heard as another one; NONE. BAD.");
        range(0, c, 0, "trap", 0, 1);
        range(0, c, 1, "trap", 1, 0);
        due.says("A PERSON more: its number. BAD; FULL.");
        range(0, c, 0, "person", 0);
        due.says("A GIFT of n (1 to 400) from a to b: OWED by b to a then. BAD: also itself;");
        range(1, 400, 2, "gift", 0, 2, 1);
        for (String name : new String[] {"gift", "owed", "told"}) {
            Object[] both = name.equals("gift") ? new Object[] {1, 1, 1} : new Object[] {1, 1};
            range(0, p, 0, name, both);
            range(0, p, 1, name, both);
            outside(1, 1, name, both);
        }
        due.says("What a PERSON gets in all, less what it owes in all. BAD: -100000.");
        range(0, p, 0, "worth", 0);
    }

    /** l is the last LIST, n the items of LIST 0. */
    private static void lists(int l, int n) {
        due.says("the first n (0 to 30) items of a SHEET, those that are not 0 to 99 lost: its number. BAD: the SHEET, n, YEAR;");
        range(0, 3, 0, "list", 0, 1, 1);
        range(0, 30, 1, "list", 0, 1, 1);
        range(0, 3000, 2, "list", 0, 1, 1);
        due.says("Item i of a LIST (NONE: lost). BAD.");
        range(0, l, 0, "word", 0, 0);
        range(0, n - 1, 1, "word", 0, 0);
        due.says("2 lost ones, 3 those OF TENS, 4 whether SHOPPED. BAD.");
        range(0, l, 0, "listIs", 0, 0);
        range(0, 4, 1, "listIs", 0, 0);
        due.says("CHANGES from one LIST to another. BAD.");
        range(0, l, 0, "changes", 0, 1);
        range(0, l, 1, "changes", 1, 0);
        for (String name : new String[] {"mother", "mothers", "strange", "age"}) {
            range(0, l, 0, name, 0);
        }
        due.says("has at that item. BAD: also itself.");
        range(0, l, 0, "slips", 0, 1);
        range(0, l, 1, "slips", 1, 0);
        for (int list = 0; list <= l; list++) {
            outside(list, 1, "slips", list, 0);
        }
    }

    private static void tales(int c) {
        due.says("the TALE of the first n (1 to 30) items of a SHEET has. BAD; NULL; INDEX.");
        range(0, 3, 0, "readings", 0, 1);
        range(1, 30, 1, "readings", 0, 1);
        due.says("NONE: there is no such one. BAD: also i below 0; NULL; INDEX.");
        range(0, 3, 0, "reading", 0, 1, 0);
        range(1, 30, 1, "reading", 0, 1, 0);
        range(0, MOST, 2, "reading", 0, 1, 0);
        due.says("Whether a TALE FITS: 1, 0. BAD: also START, STEP; NULL; INDEX.");
        range(0, 3, 0, "fits", 0, 1, 0, 1, 1);
        range(1, 30, 1, "fits", 0, 1, 0, 1, 1);
        range(0, c, 2, "fits", 0, 1, 0, 1, 1);
        range(1, 99, 3, "fits", 0, 1, 0, 1, 1);
        range(1, 20, 4, "fits", 0, 1, 0, 1, 1);
        due.says("A byte (0 to 255) comes behind SPEECH: how many. BAD; FULL.");
        range(0, 255, 0, "type", 0);
        due.says("VALUE by a COUNT. BAD: -100000;");
        range(0, c, 0, "speech", 0);
    }

    private static void sheets(int c) {
        due.says("A SHEET is a new row of a FORM with n items: n. BAD: SHEET, FORM, above 60; SIZE.");
        range(0, 3, 0, "sheet", 0, 0, 1);
        range(0, 2, 1, "sheet", 0, 0, 1);
        range(LEAST, 60, 2, "sheet", 0, 0, 1);
        due.says("It is LOST: how many items it had. BAD; NULL.");
        range(0, 3, 0, "lose", 0);
        due.says("becomes v (the lowest bits that it has): 1. BAD; NULL; CAST; INDEX.");
        range(0, 3, 0, "put", 0, 0, 0, 1);
        range(0, 2, 1, "put", 0, 0, 0, 1);
        due.says("BAD: the least int; so are NULL, CAST, INDEX (count() 8 tells).");
        for (int wrong : new int[] {LEAST, -1, 4, MOST}) {
            outside(wrong, 0, "get", 0, 0, 0);
        }
        for (int wrong : new int[] {LEAST, -1, 3, MOST}) {
            outside(wrong, 1, "get", 0, 0, 0);
        }
        due.says("from j on: 1. BAD: the SHEETS; NULL: s, t; STORE; INDEX: below 0, not so many.");
        range(0, 3, 0, "copy", 0, 0, 1, 0, 1);
        range(0, 3, 2, "copy", 1, 0, 0, 0, 1);
        due.says("how many. BAD: also START 1 to 99, STEP 1 to 20; NULL.");
        range(0, 3, 0, "write", 0, 0, 1, 1);
        range(0, c, 1, "write", 0, 0, 1, 1);
        range(1, 99, 2, "write", 0, 0, 1, 1);
        range(1, 20, 3, "write", 0, 0, 1, 1);
        due.says("7 SHEETS that are not LOST, 8 the number of the latest FINDING (0 before any). BAD.");
        range(0, 8, 0, "count", 0);
    }

    /** Without COUNTS, PERSONS and LISTS there is not even number 0. */
    private static void nothingYet() {
        due.says("No COUNTS, PERSONS, LISTS; all SHEETS are LOST.");
        Object[][] calls = {
            {"begins", 0, 0}, {"about", 0, 0}, {"place", 0, 1, 0}, {"number", 0, 1, 0}, {"value", 0, 0, 1},
            {"meanings", 0, 0, -1, -1, 1}, {"meaning", 0, 0, -1, -1, 0}, {"clue", 0, 0, 0, -1, -1},
            {"heard", 0, 0, 1}, {"clear", 0, 0, 1}, {"trap", 0, 0}, {"person", 0}, {"gift", 0, 1, 1}, {"owed", 0, 1},
            {"told", 0, 1}, {"worth", 0}, {"word", 0, 0}, {"listIs", 0, 0}, {"changes", 0, 0}, {"mother", 0},
            {"mothers", 0}, {"strange", 0}, {"age", 0}, {"slips", 0, 1}, {"fits", 0, 1, 0, 1, 1}, {"speech", 0},
            {"write", 0, 0, 1, 1},
        };
        for (Object[] call : calls) {
            String name = (String) call[0];
            world.refuses(due, Face.bad(name), name, java.util.Arrays.copyOfRange(call, 1, call.length));
        }
    }
}
