/** Sentences of the document about COUNTS that name a boundary, one by one (promises 1 to 7). */
public final class CountEdgesTest {
    private static final Due due = new Due("CountEdgesTest");
    private static final int BAD = ArmCounts.BAD, NOT = ArmCounts.NOT, FULL = ArmCounts.FULL;
    private static final int INTS = 2;

    public static void main(String[] args) {
        newObject();
        lastCall();
        sixAtMost();
        halves();
        words();
        unlike();
        firstItems();
        placesInAll();
        sides();
        backward();
        hands();
        men();
        values();
        due.end();
    }

    private static void newObject() {
        due.says("No COUNTS, PERSONS, LISTS; all SHEETS are LOST.");
        ArmCounts x = new ArmCounts();
        due.is("COUNTS", x.count(0), 0);
        due.is("PERSONS", x.count(3), 0);
        due.is("LISTS", x.count(4), 0);
        due.is("SHEETS", x.count(7), 0);
        due.is("no FINDING yet", x.count(8), 0);
        for (int s = 0; s < 4; s++) {
            due.is("lose(" + s + ")", x.lose(s), -11);
        }
    }

    private static void lastCall() {
        due.says("An object is used for at most 512 calls after it has been made");
        ArmCounts x = new ArmCounts();
        for (int call = 1; call < 512; call++) {
            x.type(call % 256);
        }
        due.is("the last call", x.hush(), 60);
    }

    private static void sixAtMost() {
        due.says("COUNTS 0 .. 5 (6 at most)");
        ArmCounts x = new ArmCounts();
        Due.sheet(x, 0, INTS, Due.row(21, 10));
        for (int c = 0; c < 6; c++) {
            due.is("COUNTS ahead", x.count(0), c);
            due.is("not made yet", x.about(c, 0), BAD);
            x.put(0, INTS, 0, 50 + c);
            due.is("COUNT", x.countBy(0, 1 + c, c % 2 == 0), c);
            due.is("made", x.about(c, 1), 1 + c);
        }
        due.is("one more", x.countBy(0, 1, false), FULL);
        due.is("and again", x.countBy(0, 20, true), FULL);
        due.is("six", x.count(0), 6);
        due.is("no COUNT 6", x.about(6, 0), BAD);
        for (int c = 0; c < 6; c++) {
            due.is("the first WORD of " + c, x.place(c, 1, 0), 50 + c);
            due.is("M of " + c, x.about(c, 1), 1 + c);
            due.is("NOSE of " + c, x.about(c, 2), 1 - c % 2);
            due.is("HAND of " + c, x.about(c, 3), 0);
        }
    }

    private static void halves() {
        due.says("COUNTS 0 .. 5 (6 at most) are rows of M (1 to 20) WORDS for places up the first side, perhaps a NOSE");
        ArmCounts x = new ArmCounts();
        Due.sheet(x, 0, INTS, Due.row(60, 0));
        due.is("0", x.countBy(0, 0, false), BAD);
        due.is("0 and a NOSE", x.countBy(0, 0, true), BAD);
        due.is("-1", x.countBy(0, -1, false), BAD);
        due.is("21", x.countBy(0, 21, false), BAD);
        due.is("21 and a NOSE", x.countBy(0, 21, true), BAD);
        due.is("none is made", x.count(0), 0);
        due.is("1", x.countBy(0, 1, false), 0);
        due.is("1 and a NOSE", x.countBy(0, 1, true), 1);
        due.is("20", x.countBy(0, 20, false), 2);
        due.is("20 and a NOSE", x.countBy(0, 20, true), 3);
    }

    private static void words() {
        due.says("1 WORDS are 0 to 99.");
        for (int at : new int[] {0, 1, 2, 3}) {
            for (int w : new int[] {World.LEAST, -1, 100, 255, World.MOST}) {
                due.is(w + " at " + at, byItem(at, w), NOT);
            }
            for (int w : new int[] {0, 99}) {
                due.is(w + " at " + at, byItem(at, w), 0);
            }
        }
        due.says("NOT: items that are no WORDS, two alike;");
        ArmCounts x = new ArmCounts();
        Due.sheet(x, 0, 0, 1, 2, 128);
        due.is("a byte below 0", x.countBy(0, 3, false), NOT);
        due.is("a NOSE below 0", x.countBy(0, 2, true), NOT);
        due.is("without it", x.countBy(0, 2, false), 0);
    }

    /** A COUNT of 20 30 40 and the NOSE 50, but for one of them. */
    private static int byItem(int at, int w) {
        ArmCounts x = new ArmCounts();
        Due.sheet(x, 0, INTS, 20, 30, 40, 50);
        x.put(0, INTS, at, w);
        int answer = x.countBy(0, 3, true);
        due.is("COUNTS then", x.count(0), answer == 0 ? 1 : 0);
        due.is("the WORD then", x.place(0, at + 1, 0), answer == 0 ? w : BAD);
        return answer;
    }

    private static void unlike() {
        due.says("(no two of all these alike)");
        for (int i = 0; i < 21; i++) {
            for (int j = 0; j < i; j++) {
                ArmCounts x = new ArmCounts();
                Due.sheet(x, 0, INTS, Due.row(22, 10));
                x.put(0, INTS, i, 10 + j);
                due.is("items " + j + " and " + i, x.countBy(0, 20, true), NOT);
                due.is("without a NOSE", x.countBy(0, 20, false), i < 20 ? NOT : 0);
                due.is("up to the one ahead", x.countBy(0, i, false), i < 20 ? 0 : 1);
            }
        }
    }

    private static void firstItems() {
        due.says("A COUNT more: M WORDS are the first m items of a SHEET, the NOSE the next one, if it has one: its number.");
        for (int form = 0; form < 3; form++) {
            ArmCounts x = new ArmCounts();
            Due.sheet(x, 1, form, 5, 6, 7);
            due.is("as many as there are", x.countBy(1, 3, false), 0);
            due.is("one more", x.countBy(1, 4, false), -12);
            due.is("the last is the NOSE", x.countBy(1, 2, true), 1);
            due.is("no item for the NOSE", x.countBy(1, 3, true), -12);
            due.is("the NOSE", x.place(1, 3, 0), 7);
            x.sheet(1, form, 0);
            due.is("no items", x.countBy(1, 1, false), -12);
            Due.sheet(x, 1, form, 8, 9, 9, 100);
            due.is("items behind are not looked at", x.countBy(1, 1, true), 2);
            due.is("nor here", x.countBy(1, 2, false), 3);
            due.is("but the next one", x.countBy(1, 2, true), NOT);
            x.lose(1);
            due.is("a COUNT stays without its SHEET", x.place(2, 2, 0), 9);
        }
    }

    private static void placesInAll() {
        due.says("T is 2 M, and 1 with a NOSE.");
        for (int m = 1; m <= 20; m++) {
            ArmCounts x = new ArmCounts();
            Due.sheet(x, 0, INTS, Due.row(21, 30));
            x.countBy(0, m, false);
            x.countBy(0, m, true);
            due.is("T of " + m, x.about(0, 0), 2 * m);
            due.is("with a NOSE", x.about(1, 0), 2 * m + 1);
            due.is("without", x.about(0, 2), 0);
            due.is("with", x.about(1, 2), 1);
            for (int c = 0; c < 2; c++) {
                int t = 2 * m + c;
                due.says("PLACE k (1 to T) has a WORD, and a SIDE");
                for (int what = 0; what < 3; what++) {
                    due.is("PLACE 0", x.place(c, 0, what), BAD);
                    due.holds("PLACE 1", x.place(c, 1, what) >= 0);
                    due.holds("PLACE T", x.place(c, t, what) >= 0);
                    due.is("PLACE above T", x.place(c, t + 1, what), BAD);
                }
                due.is("value of PLACE 0", x.value(c, 0, 0), BAD);
                due.is("value of PLACE T", x.value(c, 0, t), t);
                due.is("value of PLACE above T", x.value(c, 0, t + 1), BAD);
            }
        }
    }

    private static void sides() {
        due.says("a SIDE: 0 the first one, 1 the other, 2 the NOSE.");
        for (int m : new int[] {1, 2, 19, 20}) {
            ArmCounts x = new ArmCounts();
            Due.sheet(x, 0, INTS, Due.row(21, 30));
            x.countBy(0, m, false);
            x.countBy(0, m, true);
            for (int c = 0; c < 2; c++) {
                due.is("the first", x.place(c, 1, 1), 0);
                due.is("the last of the first side", x.place(c, m, 1), 0);
                due.is("the next one", x.place(c, m + 1, 1), 1 + c);
                due.is("the first of the other", x.place(c, m + 1 + c, 1), 1);
                due.is("the last", x.place(c, 2 * m + c, 1), 1);
            }
        }
    }

    private static void backward() {
        due.says("perhaps a NOSE, one WORD more in the middle");
        ArmCounts x = new ArmCounts();
        Due.sheet(x, 0, INTS, Due.row(21, 30));
        x.countBy(0, 20, true);
        x.countBy(0, 20, false);
        x.countBy(0, 1, true);
        due.is("of 41", x.place(0, 21, 0), 50);
        due.is("of 40", x.place(1, 21, 0), 49);
        due.is("of 3", x.place(2, 2, 0), 31);
        due.says("then the same WORDS backward, down the other side.");
        for (int c = 0; c < 3; c++) {
            int t = x.about(c, 0);
            for (int k = 1; k <= t; k++) {
                due.is("PLACE " + k + " and " + (t + 1 - k), x.place(c, k, 0), x.place(c, t + 1 - k, 0));
            }
            for (int k = 1; k <= x.about(c, 1); k++) {
                due.is("PLACE " + k, x.place(c, k, 0), 29 + k);
            }
        }
    }

    private static void hands() {
        due.says("A COUNT begins on the right (0, at first) or on the left (1)");
        ArmCounts x = new ArmCounts();
        Due.count(x, true, 1, 2, 3);
        Due.count(x, false, 1, 2);
        due.is("at first", x.about(0, 3), 0);
        due.is("of which it was 0", x.begins(0, 1), 0);
        due.is("left", x.about(0, 3), 1);
        due.is("of which it was 1", x.begins(0, 1), 1);
        due.is("no HAND 2 to begin on", x.begins(0, 2), BAD);
        due.is("nor NONE", x.begins(0, -1), BAD);
        due.is("left still", x.about(0, 3), 1);
        due.says("the HAND of a PLACE is: on SIDE 0 where it begins, on SIDE 1 the other, of the NOSE 2.");
        int[][] hands = {{1, 1, 2, 0, 0}, {0, 0, 1, 1}};
        for (int c = 0; c < 2; c++) {
            for (int k = 1; k <= hands[c].length; k++) {
                due.is("HAND of PLACE " + k, x.place(c, k, 2), hands[c][k - 1]);
                due.is("HAND of number " + k, x.number(c, k, 3), hands[c][k - 1]);
            }
        }
        due.is("back on the right", x.begins(0, 0), 1);
        due.is("the first", x.place(0, 2, 2), 0);
        due.is("the NOSE", x.place(0, 3, 2), 2);
        due.is("the other", x.place(0, 4, 2), 1);
    }

    private static void men() {
        due.says("A number N (1 to 400) by a COUNT");
        for (int m : new int[] {1, 2, 10, 20}) {
            for (int nose = 0; nose < 2; nose++) {
                ArmCounts x = byHalf(m, nose);
                for (int what = 0; what < 4; what++) {
                    due.is("0", x.number(0, 0, what), BAD);
                    due.holds("1", x.number(0, 1, what) >= 0);
                    due.holds("400", x.number(0, 400, what) >= 0);
                    due.is("401", x.number(0, 401, what), BAD);
                }
                menBy(m, nose);
            }
        }
    }

    private static ArmCounts byHalf(int m, int nose) {
        ArmCounts x = new ArmCounts();
        Due.sheet(x, 0, INTS, Due.row(21, 30));
        x.countBy(0, m, nose == 1);
        return x;
    }

    private static void menBy(int m, int nose) {
        int t = 2 * m + nose;
        due.says("MEN, how many are counted through ahead: (N less 1) by T, cut; and PLACE N less T MEN.");
        for (int men = 0; men * t < 400; men++) {
            ArmCounts x = byHalf(m, nose);
            due.is("MEN of the first", x.number(0, men * t + 1, 0), men);
            due.is("PLACE of the first", x.number(0, men * t + 1, 1), 1);
            if (men * t + t <= 400) {
                due.is("MEN of the last", x.number(0, men * t + t, 0), men);
                due.is("PLACE of the last", x.number(0, men * t + t, 1), t);
                due.is("WORD of the last", x.number(0, men * t + t, 2), 30);
            }
        }
        ArmCounts x = byHalf(m, nose);
        due.is("MEN of 400", x.number(0, 400, 0), 399 / t);
        due.is("PLACE of 400", x.number(0, 400, 1), 400 - t * (399 / t));
    }

    private static void values() {
        due.says("The number of PLACE k and MEN (0 to 20) by a COUNT. BAD.");
        ArmCounts x = new ArmCounts();
        Due.count(x, false, 1);
        Due.count(x, true, Due.row(21, 30));
        int[] t = {2, 41};
        for (int c = 0; c < 2; c++) {
            due.is("the least", x.value(c, 0, 1), 1);
            due.is("the last without MEN", x.value(c, 0, t[c]), t[c]);
            due.is("the next", x.value(c, 1, 1), t[c] + 1);
            due.is("20 MEN", x.value(c, 20, 1), 20 * t[c] + 1);
            due.is("20 MEN, the last PLACE", x.value(c, 20, t[c]), 21 * t[c]);
            due.is("21 MEN", x.value(c, 21, 1), BAD);
            due.is("MEN not told", x.value(c, -1, 1), BAD);
        }
        for (int n = 1; n <= 42; n++) {
            due.is("back from " + n, x.value(0, x.number(0, n, 0), x.number(0, n, 1)), n);
        }
    }
}
