/** Sentences of the document about TALES and SPEECH that name a boundary, one by one (promises 38 to 44). */
public final class TaleEdgesTest {
    private static final Due due = new Due("TaleEdgesTest");
    private static final int NONE = ArmCounts.NONE, BAD = ArmCounts.BAD, FULL = ArmCounts.FULL;
    private static final int LOST = -1, INTS = 2, NOT_SAID = -100001;

    public static void main(String[] args) {
        lostItems();
        startAndStep();
        upTo400();
        lostAbove400();
        itemsOfTale();
        orderOfReadings();
        readingsOfNone();
        whichReading();
        sixtyBytes();
        hush();
        numbers();
        goesOn();
        ends();
        zeroPlace();
        longest();
        values();
        aboveT();
        speechOfNone();
        due.end();
    }

    private static void lostItems() {
        due.says("A TALE is a row of POINTS (WORDS of a SHEET, those that are not 0 to 99 lost)");
        ArmCounts x = new ArmCounts();
        Due.count(x, true, 0, 99);
        Due.count(x, true, 1, 2);
        int[] items = {World.LEAST, -1, 0, 99, 100, 256, World.MOST};
        int[] first = {1, 1, 1, 0, 1, 1, 1};
        int[] second = {1, 1, 0, 1, 1, 1, 1};
        int[] other = {1, 1, 0, 0, 1, 1, 1};
        for (int i = 0; i < items.length; i++) {
            Due.sheet(x, 0, INTS, items[i]);
            due.is(items[i] + " as 1", x.fits(0, 1, 0, 1, 1), first[i]);
            due.is(items[i] + " as 2", x.fits(0, 1, 0, 2, 1), second[i]);
            due.is(items[i] + " by another", x.fits(0, 1, 1, 1, 1), other[i]);
        }
        Due.sheet(x, 0, 0, 99, 255, 128);
        due.is("bytes below 0 are lost", x.fits(0, 3, 0, 2, 1), 1);
    }

    private static void startAndStep() {
        due.says("FITS a COUNT with a START (1 to 99) and a STEP (1 to 20)");
        ArmCounts x = new ArmCounts();
        Due.count(x, false, 10, 20);
        Due.sheet(x, 0, INTS, 10, LOST);
        due.is("START 0", x.fits(0, 1, 0, 0, 1), BAD);
        due.is("START 1", x.fits(0, 1, 0, 1, 1), 1);
        due.is("START 97", x.fits(0, 1, 0, 97, 1), 1);
        due.is("START 99", x.fits(0, 1, 0, 99, 1), 0);
        due.is("START 100", x.fits(0, 1, 0, 100, 1), BAD);
        due.is("STEP 0", x.fits(0, 1, 0, 1, 0), BAD);
        due.is("STEP 1", x.fits(0, 2, 0, 1, 1), 1);
        due.is("STEP 20", x.fits(0, 2, 0, 1, 20), 1);
        due.is("STEP 21", x.fits(0, 2, 0, 1, 21), BAD);
        due.says("if the WORD of the number START and i STEP is item i, for all that are not lost,");
        Due.sheet(x, 0, INTS, 20, LOST, 20, 10);
        due.is("99, 119 ..", x.fits(0, 3, 0, 99, 20), 1);
        due.is("99, 119, 139, 159", x.fits(0, 4, 0, 99, 20), 0);
        due.is("2, 3, 4, 5", x.fits(0, 4, 0, 2, 1), 0);
        due.is("3, 5, 7, 9", x.fits(0, 4, 0, 3, 2), 1);
        due.is("2, 4, 6, 8", x.fits(0, 4, 0, 2, 2), 1);
        due.is("4, 6, 8, 10", x.fits(0, 4, 0, 4, 2), 0);
        x.put(0, INTS, 2, LOST);
        due.is("2, 3, 4, 5 with the third lost", x.fits(0, 4, 0, 2, 1), 1);
        x.put(0, INTS, 0, 10);
        due.is("the first is unlike", x.fits(0, 4, 0, 2, 1), 0);
    }

    /** A SHEET of n lost items. */
    private static ArmCounts lostTale(int n) {
        ArmCounts x = new ArmCounts();
        Due.count(x, true, 10, 20, 30);
        int[] row = new int[n];
        java.util.Arrays.fill(row, LOST);
        Due.sheet(x, 0, INTS, row);
        return x;
    }

    private static void upTo400() {
        due.says("and all numbers are 400 at most.");
        ArmCounts x = lostTale(30);
        int[][] rows = {
            {30, 52, 12, 1}, {30, 53, 12, 0}, {30, 99, 10, 1}, {30, 99, 11, 0}, {16, 99, 20, 1}, {17, 99, 20, 0},
            {17, 80, 20, 1}, {17, 81, 20, 0}, {21, 80, 16, 1}, {21, 81, 16, 0}, {1, 99, 20, 1}, {30, 1, 1, 1},
            {20, 20, 20, 1}, {20, 21, 20, 0}, {30, 23, 13, 1}, {30, 24, 13, 0},
        };
        for (int[] r : rows) {
            due.is(r[0] + " items from " + r[1] + " by " + r[2], x.fits(0, r[0], 0, r[1], r[2]), r[3]);
        }
        x.put(0, INTS, 16, 10);
        due.is("400 is PLACE 5", x.fits(0, 17, 0, 80, 20), 1);
        x.put(0, INTS, 16, 20);
        due.is("400 is not PLACE 4", x.fits(0, 17, 0, 80, 20), 0);
    }

    private static void lostAbove400() {
        due.says("READINGS of a TALE: all COUNT, START, STEP that FIT, all numbers (of lost items, too) being 400 at most;");
        for (int n : new int[] {1, 2, 15, 16, 17, 29, 30}) {
            ArmCounts x = lostTale(n);
            int want = 0;
            int last = NONE;
            for (int start = 1; start <= 99; start++) {
                for (int step = 1; step <= 20; step++) {
                    if (start + (n - 1) * step <= 400) {
                        want++;
                        last = 1000 * step + start;
                    }
                }
            }
            due.is(n + " lost items", x.readings(0, n), want);
            due.is("the last", x.reading(0, n, want - 1), last);
            due.is("no more", x.reading(0, n, want), NONE);
        }
    }

    private static void itemsOfTale() {
        due.says("the TALE of the first n (1 to 30) items of a SHEET has.");
        ArmCounts x = new ArmCounts();
        Due.count(x, false, 10, 20);
        x.sheet(0, INTS, 60);
        x.write(0, 0, 1, 1);
        due.is("0 items", x.readings(0, 0), BAD);
        due.is("31 items", x.readings(0, 31), BAD);
        due.is("0 items, which", x.reading(0, 0, 0), BAD);
        due.is("31 items, which", x.reading(0, 31, 0), BAD);
        due.is("0 items, whether", x.fits(0, 0, 0, 1, 1), BAD);
        due.is("31 items, whether", x.fits(0, 31, 0, 1, 1), BAD);
        due.is("1 item", x.reading(0, 1, 0), 1001);
        due.is("30 items", x.reading(0, 30, 0), 1001);
        x.put(0, INTS, 29, 99);
        due.is("the last is of none", x.readings(0, 30), 0);
        due.holds("it is behind 29", x.readings(0, 29) > 0);
        Due.sheet(x, 0, INTS, 10, 20);
        due.holds("as many as there are", x.readings(0, 2) > 0);
        due.is("one more", x.readings(0, 3), -12);
        due.is("one more, which", x.reading(0, 3, 0), -12);
        due.is("one more, whether", x.fits(0, 3, 0, 1, 1), -12);
        x.sheet(0, INTS, 0);
        due.is("one of none", x.readings(0, 1), -12);
    }

    private static void orderOfReadings() {
        due.says("in order of COUNT, then START, then STEP.");
        ArmCounts x = new ArmCounts();
        for (int c = 0; c < 6; c++) {
            Due.count(x, true, 10 + c % 2, 20);
        }
        Due.sheet(x, 0, INTS, 10, LOST);
        int i = 0;
        for (int c = 0; c < 6; c += 2) {
            for (int start = 1; start <= 99; start++) {
                if (start % 3 != 2) {
                    if (start == 1 || start == 99) {
                        for (int step = 1; step <= 20; step++) {
                            due.is("READING " + (i + step - 1), x.reading(0, 2, i + step - 1), 100000 * c + 1000 * step + start);
                        }
                    }
                    i += 20;
                }
            }
        }
        due.is("so many", x.readings(0, 2), i);
        due.is("no more", x.reading(0, 2, i), NONE);
    }

    private static void readingsOfNone() {
        due.says("How many READINGS the TALE");
        ArmCounts x = new ArmCounts();
        Due.sheet(x, 0, INTS, LOST);
        due.is("without COUNTS", x.readings(0, 1), 0);
        due.is("which", x.reading(0, 1, 0), NONE);
        Due.count(x, false, 10, 20);
        due.is("with one", x.readings(0, 1), 99 * 20);
        for (int c = 1; c < 6; c++) {
            Due.count(x, false, 30, 40);
        }
        due.is("with six", x.readings(0, 1), 6 * 99 * 20);
        due.is("the last of all", x.reading(0, 1, 6 * 99 * 20 - 1), 520099);
        due.is("no more", x.reading(0, 1, 6 * 99 * 20), NONE);
        Due.sheet(x, 0, INTS, 50);
        due.is("a WORD of none", x.readings(0, 1), 0);
    }

    private static void whichReading() {
        due.says("READING i: 100000 times the COUNT, 1000 times the STEP and the START; NONE: there is no such one. BAD: also i below 0; NULL; INDEX.");
        ArmCounts x = new ArmCounts();
        Due.count(x, false, 10, 20);
        x.sheet(0, INTS, 3);
        x.write(0, 0, 1, 1);
        due.is("the first", x.reading(0, 3, 0), 1001);
        due.is("i -1", x.reading(0, 3, -1), BAD);
        due.is("i least", x.reading(0, 3, World.LEAST), BAD);
        due.is("i greatest", x.reading(0, 3, World.MOST), NONE);
        due.is("the last", x.reading(0, 3, x.readings(0, 3) - 1), 17097);
        due.is("behind the last", x.reading(0, 3, x.readings(0, 3)), NONE);
    }

    private static void sixtyBytes() {
        due.says("SPEECH: a text of up to 60 bytes");
        ArmCounts x = new ArmCounts();
        for (int i = 1; i <= 60; i++) {
            due.is("byte " + i, x.type('p'), i);
        }
        due.is("one more", x.type('p'), FULL);
        due.is("sixty", x.count(5), 60);
        due.says("A byte (0 to 255) comes behind SPEECH: how many. BAD; FULL.");
        due.is("-1", x.type(-1), BAD);
        due.is("256", x.type(256), BAD);
        x.hush();
        due.is("-1 of an empty one", x.type(-1), BAD);
        due.is("256 of an empty one", x.type(256), BAD);
        due.is("none came", x.count(5), 0);
        due.is("0", x.type(0), 1);
        due.is("255", x.type(255), 2);
    }

    private static void hush() {
        due.says("SPEECH is empty: how many bytes it had.");
        ArmCounts x = new ArmCounts();
        due.is("none", x.hush(), 0);
        x.type('p');
        x.type('1');
        due.is("two", x.hush(), 2);
        due.is("none again", x.hush(), 0);
        due.is("empty", x.fault(), 0);
        due.is("so many", x.count(5), 0);
        x.type('p');
        due.is("what it had is gone", x.fault(), 1);
    }

    private static void faultOf(String text, int want) {
        ArmCounts x = new ArmCounts();
        Due.count(x, true, Due.row(21, 10));
        Due.type(x, text);
        due.is("FAULT of " + text, x.fault(), want);
        due.is("VALUE of " + text + " is not", x.speech(0) == NOT_SAID ? 1 : 0, want == NONE ? 0 : 1);
    }

    private static void numbers() {
        due.says("each: perhaps m and one or two figures (MEN, 0 if not told), then p and one or two figures (PLACE, 1 and more).");
        for (String text : new String[] {"p1", "p9", "p10", "p41", "p01", "p09", "m0p1", "m00p1", "m9p9", "m99p41", "m01p01"}) {
            faultOf(text, NONE);
            faultOf(text + "+" + text, NONE);
            faultOf(text + "-" + text, NONE);
        }
        faultOf("mp1", 1);
        faultOf("m123p1", 3);
        faultOf("m000p1", 3);
        faultOf("p", 1);
        faultOf("p123", 3);
        faultOf("p010", 3);
        faultOf("1", 0);
        faultOf("m1", 2);
        faultOf("m12", 3);
        faultOf("p1m1", 2);
        faultOf("m1p1m1p1", 4);
        faultOf("m1m1p1", 2);
    }

    private static void goesOn() {
        due.says("The FAULT is the place of the first byte with which it cannot go on");
        int[] wrong = {0, 32, '*', ',', '.', '/', ':', 'l', 'n', 'o', 'q', 'M', 'P', 128, 176, 185, 255};
        String[] starts = {"", "m", "m1", "m12", "p", "p1", "p12", "p1+", "m1p1-m", "m1p1-m1", "m1p1-p", "p1-m1p1+p12"};
        for (String start : starts) {
            for (int b : wrong) {
                faultOf(start + (char) b, start.length());
                faultOf(start + (char) b + "p1", start.length());
            }
        }
        faultOf("+p1", 0);
        faultOf("-p1", 0);
        faultOf("p1++p1", 3);
        faultOf("p1+-p1", 3);
        faultOf("p1-+p1", 3);
        faultOf("m+p1", 1);
        faultOf("m1-p1", 2);
        faultOf("p+p1", 1);
    }

    private static void ends() {
        due.says("(the end, where more must come; of an empty one 0)");
        faultOf("", 0);
        for (String text : new String[] {"m", "m1", "m12", "m1p", "p", "p1+", "p1-", "p12+", "p1+m", "p1+m2", "p1+m23", "p1+m23p", "p1-p"}) {
            faultOf(text, text.length());
        }
    }

    private static void zeroPlace() {
        due.says("or of the first figure of a PLACE 0.");
        faultOf("p0", 1);
        faultOf("p00", 1);
        faultOf("p0+p1", 1);
        faultOf("p00-p1", 1);
        faultOf("p1+p0", 4);
        faultOf("p1+p00", 4);
        faultOf("p12-m34p0", 8);
        faultOf("m0p0", 3);
        faultOf("p10", NONE);
        faultOf("p01", NONE);
        faultOf("p1+x+p0", 3);
    }

    private static void longest() {
        due.says("SPEECH: a text of up to 60 bytes: numbers with + or - between them");
        StringBuilder text = new StringBuilder("p1");
        for (int i = 1; i < 20; i++) {
            text.append(i % 2 == 0 ? "+p1" : "-p2");
        }
        faultOf(text.toString(), NONE);
        faultOf(text + "+", 60);
        faultOf(text + "1", NONE);
        faultOf(text + "x", 59);
        text.setLength(58);
        faultOf(text + "0", 58);
        faultOf(text.toString(), 58);
        faultOf(text + "00", 58);
        StringBuilder longer = new StringBuilder("m12p34");
        for (int i = 1; i < 8; i++) {
            longer.append("+m12p34");
        }
        faultOf(longer.toString(), NONE);
        faultOf(longer + "+p1", NONE);
        faultOf(longer + "+m12p", 60);
    }

    private static void values() {
        due.says("Its VALUE by a COUNT: of each number MEN times T and PLACE.");
        ArmCounts x = new ArmCounts();
        Due.count(x, false, 1);
        Due.count(x, true, Due.row(21, 10));
        Object[][] rows = {
            {"p1", 1, 1}, {"p2", 2, 2}, {"m0p1", 1, 1}, {"m1p1", 3, 42}, {"m20p2", 42, 822}, {"m99p2", 200, 4061},
            {"p1-p1", 0, 0}, {"p1-p2", -1, -1}, {"p1-p2+p1", 0, 0}, {"p1-p2-p1", -2, -2}, {"p1+m10p1", 22, 412},
            {"p1-m99p2", -199, -4060}, {"m09p01", 19, 370},
            {"m99p2+m99p2+m99p2+m99p2+m99p2+m99p2+m99p2+m99p2+m99p2+m99p2", 2000, 40610},
            {"p1-m99p2-m99p2-m99p2-m99p2-m99p2-m99p2-m99p2-m99p2-m99p2", -1799, -36548},
        };
        for (Object[] r : rows) {
            Due.type(x, (String) r[0]);
            due.is(r[0] + " by 2", x.speech(0), (Integer) r[1]);
            due.is(r[0] + " by 41", x.speech(1), (Integer) r[2]);
            due.is("asked again", x.speech(1), (Integer) r[2]);
        }
    }

    private static void aboveT() {
        due.says("NOT by a COUNT: a PLACE above T.");
        ArmCounts x = new ArmCounts();
        Due.count(x, false, 1);
        Due.count(x, true, 1, 2);
        Due.count(x, true, Due.row(21, 10));
        Object[][] rows = {
            {"p2", 2, 2, 2}, {"p3", NOT_SAID, 3, 3}, {"p4", NOT_SAID, NOT_SAID, 4}, {"p41", NOT_SAID, NOT_SAID, 41},
            {"p42", NOT_SAID, NOT_SAID, NOT_SAID}, {"p99", NOT_SAID, NOT_SAID, NOT_SAID}, {"p3-p3", NOT_SAID, 0, 0},
            {"p4-p3", NOT_SAID, NOT_SAID, 1}, {"p3-p4", NOT_SAID, NOT_SAID, -1}, {"p1+p4-p1", NOT_SAID, NOT_SAID, 4},
            {"m1p3", NOT_SAID, 6, 44},
        };
        for (Object[] r : rows) {
            Due.type(x, (String) r[0]);
            due.is(r[0] + " has no FAULT", x.fault(), NONE);
            for (int c = 0; c < 3; c++) {
                due.is(r[0] + " by COUNT " + c, x.speech(c), (Integer) r[1 + c]);
            }
            due.is("the bytes stay", x.count(5), ((String) r[0]).length());
        }
    }

    private static void speechOfNone() {
        due.says("VALUE by a COUNT. BAD: -100000; NOT: a FAULT, a PLACE above T: -100001.");
        ArmCounts x = new ArmCounts();
        due.is("without COUNTS", x.speech(0), -100000);
        Due.count(x, false, 1);
        due.is("an empty one", x.speech(0), NOT_SAID);
        Due.type(x, "p1+");
        due.is("a FAULT", x.speech(0), NOT_SAID);
        due.is("a FAULT and no such COUNT", x.speech(1), -100000);
        Due.type(x, "p3");
        due.is("above T", x.speech(0), NOT_SAID);
        due.is("above T and no such COUNT", x.speech(-1), -100000);
        Due.type(x, "p3+");
        due.is("both", x.speech(0), NOT_SAID);
        due.says("The FAULT; NONE.");
        due.is("at the end", x.fault(), 3);
        x.type('p');
        x.type('1');
        due.is("NONE", x.fault(), NONE);
    }
}
