/** Sentences of the document about SHEETS that name a boundary, one by one (promises 45 to 52). */
public final class SheetEdgesTest {
    private static final Due due = new Due("SheetEdgesTest");
    private static final int BAD = ArmCounts.BAD, LEAST = World.LEAST, MOST = World.MOST;
    private static final int NULL = 1, INDEX = 2, CAST = 3, STORE = 4, SIZE = 5;

    public static void main(String[] args) {
        fourSheets();
        upTo60();
        zeroAtFirst();
        belowZero();
        lose();
        lowestBits();
        items();
        casts();
        getFindings();
        copyAll();
        copyOntoItself();
        copyBounds();
        copyForms();
        writeItems();
        writeTo400();
        writeBounds();
        counts();
        digestOfNothing();
        digestParts();
        due.end();
    }

    /** The latest FINDING must be this one. */
    private static void found(ArmCounts x, int finding) {
        due.is("count(8)", x.count(8), finding);
    }

    private static void fourSheets() {
        due.says("SHEETS 0 .. 3 are LOST (at first) or a row of a FORM: 0 bytes, 1 shorts, 2 ints,");
        ArmCounts x = new ArmCounts();
        for (int s = 0; s < 4; s++) {
            due.is("LOST at first", x.lose(s), -11);
            for (int form = 0; form < 3; form++) {
                due.is("a row", x.sheet(s, form, 5 + s), 5 + s);
                due.is("SHEETS", x.count(7), s + 1);
                due.is("its FORM", x.put(s, form, 0, 1), 1);
                due.is("no other FORM", x.put(s, (form + 1) % 3, 0, 1), -13);
                due.is("nor the third", x.put(s, (form + 2) % 3, 0, 1), -13);
            }
        }
        due.is("SHEET 4", x.sheet(4, 0, 1), BAD);
        due.is("SHEET -1", x.sheet(-1, 0, 1), BAD);
        due.is("FORM 3", x.sheet(0, 3, 1), BAD);
        due.is("FORM -1", x.sheet(0, -1, 1), BAD);
        for (int s = 0; s < 4; s++) {
            due.is("each has its own items", x.lose(s), 5 + s);
            due.is("SHEETS", x.count(7), 3 - s);
        }
    }

    private static void upTo60() {
        due.says("of 0 to 60 items (0 at first).");
        for (int form = 0; form < 3; form++) {
            ArmCounts x = new ArmCounts();
            due.is("61", x.sheet(0, form, 61), BAD);
            due.is("the greatest int", x.sheet(0, form, MOST), BAD);
            due.is("LOST still", x.count(7), 0);
            due.is("60", x.sheet(0, form, 60), 60);
            due.is("the last", x.put(0, form, 59, 7), 1);
            due.is("the last is", x.get(0, form, 59), 7);
            due.is("behind it", x.put(0, form, 60, 7), -12);
            due.is("61 again", x.sheet(0, form, 61), BAD);
            due.is("it stays", x.get(0, form, 59), 7);
            due.is("0", x.sheet(0, form, 0), 0);
            due.is("it is there", x.count(7), 1);
            due.is("without items", x.put(0, form, 0, 7), -12);
            due.is("1", x.sheet(0, form, 1), 1);
            due.is("its item", x.put(0, form, 0, 7), 1);
            due.is("behind it", x.put(0, form, 1, 7), -12);
        }
    }

    private static void zeroAtFirst() {
        due.says("A SHEET is a new row of a FORM with n items: n.");
        ArmCounts x = new ArmCounts();
        for (int form = 0; form < 3; form++) {
            x.sheet(1, form, 60);
            for (int i = 0; i < 60; i++) {
                due.is("item " + i, x.get(1, form, i), 0);
                x.put(1, form, i, 9);
            }
        }
        x.sheet(1, 2, 3);
        x.sheet(1, 2, 60);
        due.is("of a shorter row's end, too", x.get(1, 2, 59), 0);
        x.put(1, 2, 59, 9);
        x.lose(1);
        x.sheet(1, 2, 60);
        due.is("of a lost one, too", x.get(1, 2, 59), 0);
    }

    private static void belowZero() {
        due.says("5 SIZE: below 0.");
        ArmCounts x = new ArmCounts();
        due.is("-1", x.sheet(0, 0, -1), -15);
        found(x, SIZE);
        due.is("LOST still", x.count(7), 0);
        Due.sheet(x, 0, 1, 7);
        due.is("the least int", x.sheet(0, 2, LEAST), -15);
        due.is("as it was", x.get(0, 1, 0), 7);
        due.says("BAD: SHEET, FORM, above 60; SIZE.");
        x.lose(3);
        due.is("BAD SHEET", x.sheet(4, 0, -1), BAD);
        due.is("BAD FORM", x.sheet(0, 3, -1), BAD);
        found(x, NULL);
    }

    private static void lose() {
        due.says("It is LOST: how many items it had. BAD; NULL.");
        ArmCounts x = new ArmCounts();
        for (int n : new int[] {0, 1, 60}) {
            x.sheet(2, 0, n);
            due.is("so many", x.lose(2), n);
            due.is("LOST", x.count(7), 0);
            x.sheet(2, 0, -1);
            due.is("again", x.lose(2), -11);
            found(x, NULL);
            due.is("put", x.put(2, 0, 0, 1), -11);
        }
        due.is("SHEET 4", x.lose(4), BAD);
        due.is("SHEET -1", x.lose(-1), BAD);
    }

    private static void lowestBits() {
        due.says("Item i, treated as of a FORM, becomes v (the lowest bits that it has): 1.");
        ArmCounts x = new ArmCounts();
        for (int form = 0; form < 3; form++) {
            x.sheet(form, form, 1);
        }
        int[][] rows = {
            {127, 127, 127, 127}, {128, -128, 128, 128}, {255, -1, 255, 255}, {256, 0, 256, 256}, {-128, -128, -128, -128},
            {-129, 127, -129, -129}, {32767, -1, 32767, 32767}, {32768, 0, -32768, 32768}, {65535, -1, -1, 65535},
            {65536, 0, 0, 65536}, {-32768, 0, -32768, -32768}, {-32769, -1, 32767, -32769}, {MOST, -1, -1, MOST},
            {LEAST + 1, 1, 1, LEAST + 1}, {LEAST, 0, 0, LEAST}, {0, 0, 0, 0}, {-1, -1, -1, -1},
        };
        for (int[] r : rows) {
            for (int form = 0; form < 3; form++) {
                due.is("put " + r[0], x.put(form, form, 0, r[0]), 1);
                due.is(r[0] + " in FORM " + form, x.get(form, form, 0), r[1 + form]);
            }
        }
    }

    private static void items() {
        due.says("2 INDEX: there is no such item;");
        for (int form = 0; form < 3; form++) {
            for (int n : new int[] {0, 1, 2, 59, 60}) {
                ArmCounts x = new ArmCounts();
                x.sheet(0, form, n);
                for (int i : new int[] {LEAST, -1, n, n + 1, 60, 61, MOST}) {
                    due.is("put at " + i + " of " + n, x.put(0, form, i, 1), -12);
                    found(x, INDEX);
                    x.lose(3);
                    due.is("get at " + i + " of " + n, x.get(0, form, i), LEAST);
                    found(x, INDEX);
                }
                if (n > 0) {
                    due.is("the first", x.put(0, form, 0, 5), 1);
                    due.is("the last", x.put(0, form, n - 1, 6), 1);
                    due.is("the first then", x.get(0, form, 0), n == 1 ? 6 : 5);
                    due.is("the last then", x.get(0, form, n - 1), 6);
                }
            }
        }
    }

    private static void casts() {
        due.says("3 CAST: it has another FORM;");
        for (int form = 0; form < 3; form++) {
            for (int other = 0; other < 3; other++) {
                ArmCounts x = new ArmCounts();
                x.sheet(0, form, 2);
                due.is("put", x.put(0, other, 1, 7), form == other ? 1 : -13);
                found(x, form == other ? 0 : CAST);
                due.is("ahead of INDEX", x.put(0, other, 2, 7), form == other ? -12 : -13);
                found(x, form == other ? INDEX : CAST);
                due.is("item then", x.get(0, form, 1), form == other ? 7 : 0);
                x.sheet(1, form, 0);
                due.is("of none", x.put(1, other, 0, 7), form == other ? -12 : -13);
                due.is("of a LOST one", x.put(2, other, 0, 7), -11);
            }
        }
    }

    private static void getFindings() {
        due.says("Item i of it. BAD: the least int; so are NULL, CAST, INDEX (count() 8 tells).");
        ArmCounts x = new ArmCounts();
        due.is("BAD", x.get(4, 0, 0), LEAST);
        due.is("BAD FORM", x.get(0, 3, 0), LEAST);
        found(x, 0);
        due.is("NULL", x.get(0, 0, 0), LEAST);
        found(x, NULL);
        x.sheet(0, 2, 1);
        due.is("CAST", x.get(0, 1, 0), LEAST);
        found(x, CAST);
        due.is("INDEX", x.get(0, 2, 1), LEAST);
        found(x, INDEX);
        due.is("CAST ahead of INDEX", x.get(0, 0, 1), LEAST);
        found(x, CAST);
        x.put(0, 2, 0, LEAST);
        due.is("an item that is the least int", x.get(0, 2, 0), LEAST);
        found(x, CAST);
    }

    private static void row(ArmCounts x, int s, int form, int... want) {
        for (int i = 0; i < want.length; i++) {
            due.is("item " + i, x.get(s, form, i), want[i]);
        }
    }

    private static void copyAll() {
        due.says("n items of SHEET s, from i on, come to SHEET t (perhaps s, as they were), from j on: 1.");
        for (int form = 0; form < 3; form++) {
            ArmCounts x = new ArmCounts();
            Due.sheet(x, 0, form, 1, -2, 3);
            Due.sheet(x, 1, form, 0, 0, 0, 0, 0);
            due.is("none", x.copy(0, 0, 1, 0, 0), 1);
            row(x, 1, form, 0, 0, 0, 0, 0);
            due.is("one", x.copy(0, 1, 1, 4, 1), 1);
            row(x, 1, form, 0, 0, 0, 0, -2);
            due.is("all", x.copy(0, 0, 1, 1, 3), 1);
            row(x, 1, form, 0, 1, -2, 3, -2);
            row(x, 0, form, 1, -2, 3);
            due.is("the end of t", x.copy(1, 3, 0, 1, 2), 1);
            row(x, 0, form, 1, 3, -2);
            found(x, 0);
        }
        ArmCounts x = new ArmCounts();
        Due.sheet(x, 0, 2, Due.row(60, 1));
        x.sheet(3, 2, 60);
        due.is("sixty", x.copy(0, 0, 3, 0, 60), 1);
        row(x, 3, 2, Due.row(60, 1));
        due.is("61", x.copy(0, 0, 3, 0, 61), -12);
    }

    private static void copyOntoItself() {
        due.says("(perhaps s, as they were)");
        int[][] rows = {{0, 1, 4, 1, 1, 2, 3, 4}, {1, 0, 4, 2, 3, 4, 5, 5}, {0, 2, 3, 1, 2, 1, 2, 3}, {2, 0, 3, 3, 4, 5, 4, 5}, {0, 0, 5, 1, 2, 3, 4, 5}};
        for (int[] r : rows) {
            for (int form = 0; form < 3; form++) {
                ArmCounts x = new ArmCounts();
                Due.sheet(x, 2, form, 1, 2, 3, 4, 5);
                due.is("copy", x.copy(2, r[0], 2, r[1], r[2]), 1);
                row(x, 2, form, r[3], r[4], r[5], r[6], r[7]);
            }
        }
    }

    private static void copyBounds() {
        due.says("INDEX: below 0, not so many.");
        ArmCounts x = new ArmCounts();
        Due.sheet(x, 0, 0, 1, 2, 3);
        Due.sheet(x, 1, 0, 4, 5);
        int[][] wrong = {
            {-1, 0, 1}, {0, -1, 1}, {0, 0, -1}, {-1, 0, 0}, {0, -1, 0}, {3, 0, 1}, {4, 0, 0}, {0, 2, 1}, {0, 3, 0},
            {2, 0, 2}, {0, 1, 2}, {0, 0, 3}, {0, 0, 4}, {LEAST, 0, 1}, {0, LEAST, 1}, {0, 0, LEAST}, {MOST, 0, 1},
            {0, MOST, 1}, {0, 0, MOST}, {1, 1, MOST}, {MOST, MOST, MOST}, {-1, -1, -1}, {LEAST, LEAST, MOST}, {3, 2, -1},
        };
        for (int[] w : wrong) {
            x.sheet(2, 0, -1);
            due.is("copy from " + w[0] + " to " + w[1] + ", " + w[2], x.copy(0, w[0], 1, w[1], w[2]), -12);
            found(x, INDEX);
        }
        row(x, 0, 0, 1, 2, 3);
        row(x, 1, 0, 4, 5);
        due.is("none from the end", x.copy(0, 3, 1, 0, 0), 1);
        due.is("none to the end", x.copy(0, 0, 1, 2, 0), 1);
        due.is("none from end to end", x.copy(0, 3, 1, 2, 0), 1);
        due.is("two, all of t", x.copy(0, 1, 1, 0, 2), 1);
        row(x, 1, 0, 2, 3);
        due.is("two, all of t back", x.copy(1, 0, 0, 0, 2), 1);
        row(x, 0, 0, 2, 3, 3);
    }

    private static void copyForms() {
        due.says("4 STORE: unlike FORMS;");
        for (int form = 0; form < 3; form++) {
            for (int other = 0; other < 3; other++) {
                ArmCounts x = new ArmCounts();
                Due.sheet(x, 0, form, 7);
                Due.sheet(x, 3, other, 8);
                due.is("copy", x.copy(0, 0, 3, 0, 1), form == other ? 1 : -14);
                found(x, form == other ? 0 : STORE);
                row(x, 3, other, form == other ? 7 : 8);
                due.is("none", x.copy(0, 0, 3, 0, 0), form == other ? 1 : -14);
                due.is("ahead of INDEX", x.copy(0, 0, 3, 0, 2), form == other ? -12 : -14);
                found(x, form == other ? INDEX : STORE);
                due.is("NULL s", x.copy(1, 0, 3, 0, 2), -11);
                due.is("NULL t", x.copy(0, 0, 1, 0, 2), -11);
                found(x, NULL);
                due.is("BAD s", x.copy(4, 0, 1, 0, 2), BAD);
                due.is("BAD t", x.copy(1, 0, -1, 0, 2), BAD);
            }
        }
    }

    private static void writeItems() {
        due.says("WORDS of START and i STEP by a COUNT come to items i of a SHEET");
        for (int form = 0; form < 3; form++) {
            ArmCounts x = new ArmCounts();
            Due.count(x, true, 0, 99, 50);
            x.sheet(0, form, 0);
            due.is("no items", x.write(0, 0, 1, 1), 0);
            x.sheet(0, form, 1);
            due.is("one", x.write(0, 0, 2, 20), 1);
            row(x, 0, form, 99);
            x.sheet(0, form, 6);
            due.is("six", x.write(0, 0, 1, 1), 6);
            row(x, 0, form, 0, 99, 50, 99, 0, 0);
            due.is("six by 4", x.write(0, 0, 3, 4), 6);
            row(x, 0, form, 50, 99, 0, 0, 99, 50);
            found(x, 0);
        }
    }

    private static void writeTo400() {
        due.says("as many as there are items and numbers to 400: how many.");
        int[][] rows = {
            {60, 1, 1, 60}, {60, 99, 20, 16}, {60, 80, 20, 17}, {60, 81, 20, 16}, {60, 99, 5, 60}, {60, 99, 6, 51},
            {60, 46, 6, 60}, {60, 47, 6, 59}, {16, 99, 20, 16}, {15, 99, 20, 15}, {17, 99, 20, 16}, {60, 20, 20, 20},
            {60, 1, 20, 20}, {21, 1, 20, 20}, {20, 1, 20, 20}, {59, 48, 6, 59}, {60, 48, 6, 59},
        };
        for (int[] r : rows) {
            ArmCounts x = new ArmCounts();
            Due.count(x, true, 10, 20, 30);
            x.sheet(0, 2, r[0]);
            for (int i = 0; i < r[0]; i++) {
                x.put(0, 2, i, -7);
            }
            due.is(r[0] + " items from " + r[1] + " by " + r[2], x.write(0, 0, r[1], r[2]), r[3]);
            for (int i = 0; i < r[0]; i++) {
                due.is("item " + i, x.get(0, 2, i), i < r[3] ? x.number(0, r[1] + i * r[2], 2) : -7);
            }
        }
    }

    private static void writeBounds() {
        due.says("BAD: also START 1 to 99, STEP 1 to 20; NULL.");
        ArmCounts x = new ArmCounts();
        Due.count(x, false, 10, 20);
        Due.sheet(x, 0, 0, -7);
        int[][] wrong = {{0, 1}, {100, 1}, {1, 0}, {1, 21}, {LEAST, 1}, {MOST, 1}, {1, LEAST}, {1, MOST}};
        for (int[] w : wrong) {
            due.is("from " + w[0] + " by " + w[1], x.write(0, 0, w[0], w[1]), BAD);
            due.is("ahead of NULL", x.write(1, 0, w[0], w[1]), BAD);
        }
        due.is("no COUNT 1", x.write(0, 1, 1, 1), BAD);
        row(x, 0, 0, -7);
        found(x, 0);
        due.is("START 1, STEP 1", x.write(0, 0, 1, 1), 1);
        row(x, 0, 0, 10);
        due.is("START 99, STEP 20", x.write(0, 0, 99, 20), 1);
        row(x, 0, 0, 20);
        due.is("LOST", x.write(1, 0, 1, 1), -11);
        found(x, NULL);
    }

    private static void counts() {
        due.says("0 COUNTS, 1 CLUES, 2 MAT, 3 PERSONS, 4 LISTS, 5 bytes of SPEECH, 6 all that is OWED, 7 SHEETS that are not LOST, 8 the number of the latest FINDING (0 before any). BAD.");
        int[][] want = {{0, 0, 30, 0, 0, 0, 0, 0, 0}, {2, 2, 12, 3, 3, 7, 409, 3, 5}, {6, 8, 40, 8, 8, 60, 2779, 3, 4}};
        for (World world : World.values()) {
            Face x = world.make();
            due.is("-1", x.call("count", -1), BAD);
            for (int what = 0; what < 9; what++) {
                due.is(world + " count(" + what + ")", x.call("count", what), want[world.ordinal()][what]);
            }
            due.is("9", x.call("count", 9), BAD);
        }
    }

    private static long mix(long h, long... parts) {
        long mixed = h;
        for (long part : parts) {
            mixed = 31 * mixed + part;
        }
        return mixed;
    }

    private static void digestOfNothing() {
        due.says("h is 17; h becomes 31 h and each of: count() 0 to 7,");
        ArmCounts x = new ArmCounts();
        long nothing = mix(17, 0, 0, 30, 0, 0, 0, 0, 0, 27000);
        due.is("nothing", x.digest(), nothing);
        x.lose(0);
        due.is("count(8) is not in it", x.digest(), nothing);
        x.mat(1);
        due.is("MAT 1", x.digest(), mix(17, 0, 0, 1, 0, 0, 0, 0, 0, 1));
        x.sum(0, 0, 0);
        due.is("no SOLUTION", x.digest(), mix(17, 0, 1, 1, 0, 0, 0, 0, 0, 0));
        x.sheet(3, 0, 0);
        due.is("a SHEET", x.digest(), mix(17, 0, 1, 1, 0, 0, 0, 0, 1, 0));
        x.type(0);
        due.is("a byte", x.digest(), mix(17, 0, 1, 1, 0, 0, 1, 0, 1, 0));
        x.list(3, 0, 3000);
        due.is("a LIST", x.digest(), mix(17, 0, 1, 1, 0, 1, 1, 0, 1, 0, 0, 3000, 0, 0, 0, -1));
    }

    private static void digestParts() {
        due.says("of each COUNT about() 0 to 3 and its WORDS by PLACES, solutions(), owed() of all PERSONS row by row (0 with itself), of each LIST listIs() 0 to 4, mother(); as longs that wrap.");
        for (World world : World.values()) {
            Face x = world.make();
            long h = 17;
            for (int what = 0; what < 8; what++) {
                h = mix(h, x.call("count", what));
            }
            int counts = (int) x.call("count", 0);
            for (int c = 0; c < counts; c++) {
                for (int what = 0; what < 4; what++) {
                    h = mix(h, x.call("about", c, what));
                }
                // The second side is told by the first, since an object has no more than 512 calls.
                int t = (int) x.call("about", c, 0);
                long[] words = new long[t];
                for (int k = 1; k <= (t + 1) / 2; k++) {
                    words[k - 1] = x.call("place", c, k, 0);
                    words[t - k] = words[k - 1];
                }
                h = mix(h, words);
            }
            h = mix(h, x.call("solutions"));
            h = debtsAndLists(x, h);
            due.is(world + " digest", x.call("digest"), h);
        }
    }

    private static long debtsAndLists(Face x, long before) {
        long h = before;
        int persons = (int) x.call("count", 3);
        for (int a = 0; a < persons; a++) {
            for (int b = 0; b < persons; b++) {
                h = mix(h, a == b ? 0 : x.call("owed", a, b));
            }
        }
        int lists = (int) x.call("count", 4);
        for (int l = 0; l < lists; l++) {
            for (int what = 0; what < 5; what++) {
                h = mix(h, x.call("listIs", l, what));
            }
            h = mix(h, x.call("mother", l));
        }
        return h;
    }
}
