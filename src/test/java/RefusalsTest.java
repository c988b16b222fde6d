import java.util.Arrays;

/** Each refusal behind BAD, and which of several is told: the answer, and that nothing changes but count(8) by FINDINGS. */
public final class RefusalsTest {
    private static final Due due = new Due("RefusalsTest");
    private static final int LEAST = World.LEAST, MOST = World.MOST;
    private static final int NOT = ArmCounts.NOT, FULL = ArmCounts.FULL, BAD = ArmCounts.BAD;
    private static final int NULL = 1, INDEX = 2, CAST = 3, STORE = 4, SIZE = 5;
    private static final World EMPTY = World.EMPTY, SOME = World.SOME, CROWDED = World.CROWDED;

    public static void main(String[] args) {
        worlds();
        asking();
        changing();
        firstThatFits();
        nothingMade();
        countBy();
        fullOfClues();
        persons();
        list();
        tales();
        speech();
        sheetAndLose();
        putAndGet();
        copy();
        write();
        latestFinding();
        due.end();
    }

    /** The other tests lean on what these objects hold. */
    private static void worlds() {
        long[][] want = {{0, 0, 30, 0, 0, 0, 0, 0, 0}, {2, 2, 12, 3, 3, 7, 409, 3, 5}, {6, 8, 40, 8, 8, 60, 2779, 3, 4}};
        for (World world : World.values()) {
            for (int what = 0; what < 9; what++) {
                due.is(world + " count(" + what + ")", world.make().call("count", what), want[world.ordinal()][what]);
            }
        }
    }

    /** Calls that only ask. */
    private static void asking() {
        due.says("Nothing is promised beyond the answers and state changes described above");
        Object[][] calls = {
            {5, "about", 0, 0}, {11, "place", 0, 1, 0}, {12, "number", 0, 2, 2}, {102, "value", 0, 20, 2},
            {160, "meanings", 0, 11, -1, -1, 400}, {5, "meaning", 0, 11, -1, -1, 1}, {324, "solutions"},
            {1, "solution", 0, 0}, {-1, "sure", 0}, {0, "quarrel"}, {6, "heard", 0, 1, 1}, {2, "clear", 0, 1, 400},
            {1, "trap", 0, 1}, {9, "owed", 1, 0}, {104, "told", 1, 0}, {391, "worth", 1}, {11, "word", 0, 0},
            {4, "listIs", 0, 0}, {6, "changes", 0, 1}, {1, "mother", 0}, {-1, "mothers", 0}, {-1, "strange", 2},
            {2, "age", 2}, {4, "slips", 0, 2}, {1440, "readings", 0, 1}, {1001, "reading", 0, 1, 0},
            {1, "fits", 0, 3, 0, 1, 1}, {-1, "fault"}, {14, "speech", 0}, {11, "get", 0, 0, 0}, {5, "count", 8},
        };
        for (Object[] call : calls) {
            SOME.refuses(due, (Integer) call[0], (String) call[1], Arrays.copyOfRange(call, 2, call.length));
        }
        SOME.refuses(due, SOME.make().call("digest"), "digest");
    }

    /** What is asked of two objects sees each change, or it could not see that there is none. */
    private static void changing() {
        Object[][] calls = {
            {"countBy", 0, 1, false}, {"begins", 0, 1}, {"mat", 11}, {"clue", 0, 0, 12, -1, -1}, {"sum", 0, 0, 1},
            {"less", 1, 2}, {"mats", 0, 1, 40}, {"forget"}, {"person", 0}, {"gift", 0, 1, 1}, {"list", 0, 1, 1},
            {"type", 48}, {"hush"}, {"sheet", 3, 0, 0}, {"sheet", 2, 1, 3}, {"sheet", 1, 1, 4}, {"lose", 0},
            {"put", 0, 0, 3, 1}, {"copy", 0, 0, 0, 1, 1}, {"write", 0, 1, 2, 2},
        };
        for (Object[] call : calls) {
            Face x = SOME.make();
            x.call((String) call[0], Arrays.copyOfRange(call, 1, call.length));
            due.holds(call[0] + " is seen", !World.ask(x).equals(World.ask(SOME.make())));
        }
        Face x = SOME.make();
        x.call("gift", 2, 0, 3);
        Face y = SOME.make();
        y.call("gift", 2, 0, 3);
        due.is("a row is closed", x.call("close"), 1);
        due.holds("close is seen", !World.ask(x).equals(World.ask(y)));
    }

    /** Calls that may be refused for several reasons. */
    private static void firstThatFits() {
        due.says("Refusals, the first that fits: BAD -2 (a number not as told, no such thing), NULL of a SHEET that is asked, NOT -3 (as told), FULL -4, other FINDINGS.");
        CROWDED.refuses(due, BAD, "countBy", 3, 21, false);
        CROWDED.finds(due, NULL, "countBy", 3, 20, false);
        CROWDED.refuses(due, NOT, "countBy", 1, 2, false);
        CROWDED.refuses(due, FULL, "countBy", 0, 2, false);
        CROWDED.refuses(due, BAD, "list", 3, 31, 0);
        CROWDED.finds(due, NULL, "list", 3, 30, 0);
        CROWDED.refuses(due, BAD, "type", 256);
        CROWDED.refuses(due, BAD, "person", 6);
        CROWDED.refuses(due, BAD, "gift", 1, 1, 400);
        due.says("They change nothing (FINDINGS but count() 8).");
        SOME.refuses(due, BAD, "sheet", 3, 3, -1);
        SOME.finds(due, NULL, "put", 3, 0, -1, 0);
        SOME.refuses(due, NOT, "gift", 1, 2, 400);
        CROWDED.refuses(due, FULL, "mats", 0, 1, 1);
        SOME.finds(due, INDEX, "put", 0, 0, -1, 0);
        SOME.finds(due, CAST, "put", 0, 1, -1, 0);
        SOME.finds(due, STORE, "copy", 0, 0, 1, 0, -1);
        SOME.finds(due, SIZE, "sheet", 0, 0, -1);
    }

    /** In a new object there is nothing to be changed. */
    private static void nothingMade() {
        due.says("No CLUES: how many there were.");
        EMPTY.refuses(due, 0, "forget");
        due.says("SPEECH is empty: how many bytes it had.");
        EMPTY.refuses(due, 0, "hush");
        due.says("CLOSING: how many rows were CLOSED.");
        EMPTY.refuses(due, 0, "close");
        SOME.refuses(due, 0, "close");
        CROWDED.refuses(due, 0, "close");
        due.says("FINDINGS (answers -10 less the number; they change nothing but count() 8): 1 NULL: the SHEET is LOST;");
        for (int s = 0; s < 4; s++) {
            EMPTY.finds(due, NULL, "countBy", s, 1, false);
            EMPTY.finds(due, NULL, "list", s, 0, 0);
            EMPTY.finds(due, NULL, "readings", s, 1);
            EMPTY.finds(due, NULL, "reading", s, 1, 0);
            EMPTY.finds(due, NULL, "lose", s);
            EMPTY.finds(due, NULL, "put", s, 0, 0, 0);
            EMPTY.finds(due, NULL, "get", s, 0, 0);
            EMPTY.finds(due, NULL, "copy", s, 0, s, 0, 0);
        }
    }

    private static void countBy() {
        due.says("BAD: the SHEET, m; NULL; INDEX; NOT: items that are no WORDS, two alike; FULL.");
        SOME.finds(due, NULL, "countBy", 3, 1, false);
        SOME.finds(due, NULL, "countBy", 3, 20, true);
        SOME.finds(due, INDEX, "countBy", 0, 7, false);
        SOME.finds(due, INDEX, "countBy", 0, 6, true);
        SOME.finds(due, INDEX, "countBy", 1, 5, false);
        SOME.finds(due, INDEX, "countBy", 1, 4, true);
        SOME.refuses(due, NOT, "countBy", 1, 2, false);
        SOME.refuses(due, NOT, "countBy", 1, 1, true);
        SOME.refuses(due, NOT, "countBy", 1, 4, false);
        SOME.refuses(due, NOT, "countBy", 2, 2, true);
        SOME.refuses(due, BAD, "countBy", 3, 0, false);
        SOME.refuses(due, BAD, "countBy", 3, 21, true);
        SOME.refuses(due, BAD, "countBy", 0, 21, false);
        SOME.refuses(due, BAD, "countBy", 1, 0, true);
        CROWDED.refuses(due, FULL, "countBy", 0, 1, false);
        CROWDED.refuses(due, FULL, "countBy", 0, 20, true);
        CROWDED.refuses(due, NOT, "countBy", 1, 2, false);
        CROWDED.refuses(due, NOT, "countBy", 1, 1, true);
        CROWDED.finds(due, INDEX, "countBy", 1, 4, false);
        CROWDED.finds(due, INDEX, "countBy", 1, 3, true);
        CROWDED.finds(due, INDEX, "countBy", 2, 1, false);
        CROWDED.finds(due, NULL, "countBy", 3, 1, false);
        CROWDED.refuses(due, BAD, "countBy", 3, 21, false);
        CROWDED.refuses(due, BAD, "countBy", -1, 1, false);
    }

    private static void fullOfClues() {
        due.says("CLUES, up to 8,");
        CROWDED.refuses(due, FULL, "clue", 0, 0, 40, -1, -1);
        CROWDED.refuses(due, FULL, "sum", 0, 1, 2);
        CROWDED.refuses(due, FULL, "sum", 0, 0, 0);
        CROWDED.refuses(due, FULL, "less", 0, 1);
        CROWDED.refuses(due, FULL, "mats", 0, 1, 40);
        CROWDED.refuses(due, BAD, "clue", 3, 0, 40, -1, -1);
        CROWDED.refuses(due, BAD, "clue", 0, 6, 40, -1, -1);
        CROWDED.refuses(due, BAD, "sum", 0, 1, 3);
        CROWDED.refuses(due, BAD, "less", 1, 1);
        CROWDED.refuses(due, BAD, "mats", 0, 2, 1);
    }

    private static void persons() {
        due.says("A PERSON more: its number. BAD; FULL.");
        CROWDED.refuses(due, FULL, "person", 0);
        CROWDED.refuses(due, FULL, "person", 5);
        CROWDED.refuses(due, BAD, "person", 6);
        due.says("NOT: it would be above 400.");
        SOME.refuses(due, NOT, "gift", 1, 2, 1);
        SOME.refuses(due, NOT, "gift", 1, 2, 400);
        SOME.refuses(due, NOT, "gift", 0, 1, 392);
        SOME.refuses(due, BAD, "gift", 1, 2, 401);
        SOME.refuses(due, BAD, "gift", 2, 2, 400);
        CROWDED.refuses(due, NOT, "gift", 0, 1, 1);
        CROWDED.refuses(due, NOT, "gift", 6, 7, 7);
    }

    private static void list() {
        due.says("BAD: the SHEET, n, YEAR; NULL; INDEX; FULL.");
        SOME.finds(due, NULL, "list", 3, 0, 0);
        SOME.finds(due, NULL, "list", 3, 30, 3000);
        SOME.finds(due, INDEX, "list", 0, 7, 0);
        SOME.finds(due, INDEX, "list", 1, 5, 0);
        SOME.refuses(due, BAD, "list", 3, 31, 0);
        SOME.refuses(due, BAD, "list", 3, 0, 3001);
        SOME.refuses(due, BAD, "list", 0, 7, -1);
        CROWDED.refuses(due, FULL, "list", 0, 0, 0);
        CROWDED.refuses(due, FULL, "list", 0, 22, 3000);
        CROWDED.refuses(due, FULL, "list", 2, 0, 0);
        CROWDED.finds(due, INDEX, "list", 0, 23, 0);
        CROWDED.finds(due, INDEX, "list", 2, 1, 0);
        CROWDED.finds(due, NULL, "list", 3, 0, 0);
        CROWDED.refuses(due, BAD, "list", 0, 0, 3001);
        CROWDED.refuses(due, BAD, "list", 0, -1, 0);
    }

    private static void tales() {
        due.says("How many READINGS the TALE of the first n (1 to 30) items of a SHEET has. BAD; NULL; INDEX.");
        SOME.finds(due, NULL, "readings", 3, 1);
        SOME.finds(due, INDEX, "readings", 0, 7);
        SOME.finds(due, INDEX, "readings", 2, 4);
        SOME.refuses(due, BAD, "readings", 3, 31);
        SOME.refuses(due, BAD, "readings", 0, 31);
        CROWDED.finds(due, INDEX, "readings", 2, 1);
        due.says("BAD: also i below 0; NULL; INDEX.");
        SOME.finds(due, NULL, "reading", 3, 30, MOST);
        SOME.finds(due, INDEX, "reading", 0, 7, 0);
        SOME.finds(due, INDEX, "reading", 0, 7, MOST);
        SOME.refuses(due, BAD, "reading", 3, 1, -1);
        SOME.refuses(due, BAD, "reading", 0, 7, -1);
        SOME.refuses(due, -1, "reading", 0, 1, MOST);
        CROWDED.finds(due, INDEX, "reading", 2, 1, 0);
        due.says("Whether a TALE FITS: 1, 0. BAD: also START, STEP; NULL; INDEX.");
        SOME.finds(due, NULL, "fits", 3, 1, 0, 1, 1);
        SOME.finds(due, INDEX, "fits", 0, 7, 0, 1, 1);
        SOME.finds(due, INDEX, "fits", 0, 30, 0, 99, 20);
        SOME.refuses(due, BAD, "fits", 3, 1, 2, 1, 1);
        SOME.refuses(due, BAD, "fits", 3, 1, 0, 100, 1);
        SOME.refuses(due, BAD, "fits", 0, 7, 0, 1, 21);
        CROWDED.finds(due, INDEX, "fits", 2, 1, 0, 1, 1);
    }

    private static void speech() {
        due.says("A byte (0 to 255) comes behind SPEECH: how many. BAD; FULL.");
        CROWDED.refuses(due, FULL, "type", 0);
        CROWDED.refuses(due, FULL, "type", 255);
        CROWDED.refuses(due, BAD, "type", 256);
        CROWDED.refuses(due, BAD, "type", -1);
        due.says("NOT: a FAULT, a PLACE above T: -100001.");
        EMPTY.refuses(due, -100000, "speech", 0);
        CROWDED.refuses(due, -100001, "speech", 0);
        CROWDED.refuses(due, -100000, "speech", 6);
    }

    private static void sheetAndLose() {
        due.says("BAD: SHEET, FORM, above 60; SIZE.");
        for (World world : World.values()) {
            world.finds(due, SIZE, "sheet", 0, 0, -1);
            world.finds(due, SIZE, "sheet", 3, 2, LEAST);
            world.refuses(due, BAD, "sheet", 4, 0, -1);
            world.refuses(due, BAD, "sheet", 0, 3, -1);
            world.refuses(due, BAD, "sheet", 0, 0, 61);
        }
        due.says("It is LOST: how many items it had. BAD; NULL.");
        SOME.finds(due, NULL, "lose", 3);
        CROWDED.finds(due, NULL, "lose", 3);
    }

    private static void putAndGet() {
        due.says("BAD; NULL; CAST; INDEX.");
        for (String name : new String[] {"put", "get"}) {
            refused(NULL, name, 3, 0, 0);
            refused(NULL, name, 3, 2, -1);
            refused(CAST, name, 0, 1, 0);
            refused(CAST, name, 0, 2, 5);
            refused(CAST, name, 1, 0, 0);
            refused(CAST, name, 1, 2, 3);
            refused(CAST, name, 2, 0, 0);
            refused(CAST, name, 2, 1, 2);
            refused(CAST, name, 0, 1, 6);
            refused(CAST, name, 1, 2, -1);
            refused(INDEX, name, 0, 0, 6);
            refused(INDEX, name, 0, 0, -1);
            refused(INDEX, name, 1, 1, 4);
            refused(INDEX, name, 1, 1, LEAST);
            refused(INDEX, name, 2, 2, 3);
            refused(INDEX, name, 2, 2, MOST);
        }
        CROWDED.finds(due, INDEX, "put", 2, 0, 0, 1);
        CROWDED.finds(due, INDEX, "get", 2, 0, 0);
        CROWDED.finds(due, CAST, "get", 2, 1, 0);
        SOME.refuses(due, BAD, "put", 3, 3, 0, 1);
        SOME.refuses(due, BAD, "put", 0, -1, 6, 1);
        SOME.refuses(due, LEAST, "get", 3, 3, 0);
        SOME.refuses(due, LEAST, "get", 4, 0, 0);
    }

    private static void refused(int finding, String name, int s, int form, int i) {
        Object[] arguments = name.equals("put") ? new Object[] {s, form, i, 77} : new Object[] {s, form, i};
        SOME.finds(due, finding, name, arguments);
    }

    private static void copy() {
        due.says("BAD: the SHEETS; NULL: s, t; STORE; INDEX: below 0, not so many.");
        SOME.refuses(due, BAD, "copy", 3, 0, 4, 0, 1);
        SOME.refuses(due, BAD, "copy", -1, 0, 3, 0, 1);
        SOME.finds(due, NULL, "copy", 3, 0, 0, 0, 0);
        SOME.finds(due, NULL, "copy", 0, 0, 3, 0, 0);
        SOME.finds(due, NULL, "copy", 3, 0, 3, 0, 0);
        SOME.finds(due, NULL, "copy", 0, -1, 3, 0, 1);
        SOME.finds(due, STORE, "copy", 0, 0, 1, 0, 1);
        SOME.finds(due, STORE, "copy", 2, 0, 1, 0, 0);
        SOME.finds(due, STORE, "copy", 0, 0, 2, 0, 1);
        SOME.finds(due, STORE, "copy", 0, -1, 2, 0, 1);
        SOME.finds(due, STORE, "copy", 0, 0, 2, 0, 99);
        int[][] wrong = {
            {-1, 0, 1}, {0, -1, 1}, {0, 0, -1}, {0, 0, 7}, {6, 0, 1}, {0, 6, 1}, {5, 0, 2}, {0, 5, 2}, {7, 0, 0},
            {0, 7, 0}, {-1, 0, 0}, {0, -1, 0}, {LEAST, 0, 1}, {0, LEAST, 1}, {0, 0, LEAST}, {MOST, 0, 1}, {0, MOST, 1},
            {0, 0, MOST}, {1, 0, MOST}, {0, 1, MOST}, {MOST, MOST, MOST}, {LEAST, LEAST, LEAST}, {MOST, 0, LEAST},
            {2, 2, -1}, {7, 7, -1},
        };
        for (int[] w : wrong) {
            SOME.finds(due, INDEX, "copy", 0, w[0], 0, w[1], w[2]);
        }
        CROWDED.finds(due, INDEX, "copy", 2, 0, 2, 0, 1);
        CROWDED.refuses(due, 1, "copy", 2, 0, 2, 0, 0);
        SOME.refuses(due, 1, "copy", 0, 6, 0, 6, 0);
        SOME.refuses(due, 1, "copy", 0, 0, 0, 0, 6);
    }

    private static void write() {
        due.says("BAD: also START 1 to 99, STEP 1 to 20; NULL.");
        SOME.finds(due, NULL, "write", 3, 0, 1, 1);
        SOME.finds(due, NULL, "write", 3, 1, 99, 20);
        SOME.refuses(due, BAD, "write", 3, 2, 1, 1);
        SOME.refuses(due, BAD, "write", 3, 0, 100, 1);
        SOME.refuses(due, BAD, "write", 3, 0, 1, 21);
        CROWDED.refuses(due, 0, "write", 2, 0, 1, 1);
    }

    private static void latestFinding() {
        due.says("8 the number of the latest FINDING (0 before any)");
        Face x = new Face();
        due.is("before any", x.call("count", 8), 0);
        x.row(0, 0, 1, 2);
        x.row(1, 1, 1, 2);
        Object[][] calls = {
            {NULL, "lose", 2}, {INDEX, "countBy", 0, 3, false}, {CAST, "put", 0, 1, 0, 0}, {STORE, "copy", 0, 0, 1, 0, 1},
            {SIZE, "sheet", 0, 0, -1}, {NULL, "write", 2, 0, 1, 1}, {NULL, "get", 2, 0, 0}, {INDEX, "get", 0, 0, 2},
            {CAST, "get", 0, 2, 0}, {INDEX, "list", 0, 3, 0}, {NULL, "list", 3, 3, 0}, {INDEX, "readings", 0, 3},
            {NULL, "countBy", 3, 1, false}, {INDEX, "reading", 1, 3, 0}, {SIZE, "sheet", 1, 1, -9},
        };
        x.call("countBy", 0, 2, false);
        due.is("none by calls that are answered", x.call("count", 8), 0);
        for (Object[] call : calls) {
            x.call((String) call[1], Arrays.copyOfRange(call, 2, call.length));
            due.is("count(8) of " + Arrays.toString(call), x.call("count", 8), (Integer) call[0]);
            x.call("put", 0, 0, 0, 5);
            x.call("lose", 4);
            x.call("countBy", 0, 21, false);
            due.is("it stays, whatever else is answered", x.call("count", 8), (Integer) call[0]);
        }
    }
}
