/** Sentences of the document about LISTS that name a boundary, one by one (promises 29 to 37). */
public final class ListEdgesTest {
    private static final Due due = new Due("ListEdgesTest");
    private static final int NONE = ArmCounts.NONE, BAD = ArmCounts.BAD, FULL = ArmCounts.FULL;
    private static final int LOST = -1;

    public static void main(String[] args) {
        eightAtMost();
        upTo30();
        years();
        lostItems();
        items();
        lostOnes();
        ofTens();
        shopped();
        changesOfItems();
        changesByLength();
        lesserYear();
        likeMothers();
        twoMothers();
        likeTwo();
        strange();
        age();
        slips();
        due.end();
    }

    private static void eightAtMost() {
        due.says("LISTS 0 .. 7 (8 at most)");
        ArmCounts x = new ArmCounts();
        Due.sheet(x, 0, 2, 5, 6, 7, 8);
        for (int l = 0; l < 8; l++) {
            due.is("not there yet", x.listIs(l, 0), BAD);
            x.put(0, 2, 0, 50 + l);
            due.is("LIST", x.list(0, 1 + l % 4, 10 * l), l);
            due.is("so many", x.count(4), l + 1);
        }
        due.is("one more", x.list(0, 1, 1), FULL);
        due.is("one more of none", x.list(0, 0, 0), FULL);
        due.is("eight", x.count(4), 8);
        due.is("no LIST 8", x.listIs(8, 0), BAD);
        for (int l = 0; l < 8; l++) {
            due.is("items of " + l, x.listIs(l, 0), 1 + l % 4);
            due.is("YEAR of " + l, x.listIs(l, 1), 10 * l);
            due.is("the first WORD of " + l, x.word(l, 0), 50 + l);
        }
    }

    private static void upTo30() {
        due.says("A LIST more of a YEAR: the first n (0 to 30) items of a SHEET, those that are not 0 to 99 lost: its number.");
        ArmCounts x = new ArmCounts();
        Due.sheet(x, 0, 0, Due.row(60, 0));
        due.is("-1", x.list(0, -1, 0), BAD);
        due.is("31", x.list(0, 31, 0), BAD);
        due.is("none is made", x.count(4), 0);
        due.is("0", x.list(0, 0, 0), 0);
        due.is("30", x.list(0, 30, 0), 1);
        due.is("no items", x.listIs(0, 0), 0);
        due.is("30 items", x.listIs(1, 0), 30);
        due.is("the last", x.word(1, 29), 29);
        for (int form = 0; form < 3; form++) {
            x.sheet(1, form, 0);
            due.is("none of none", x.list(1, 0, 0), 2 + 2 * form);
            due.is("one of none", x.list(1, 1, 0), -12);
            Due.sheet(x, 1, form, 4, 5);
            due.is("as many as there are", x.list(1, 2, 0), 3 + 2 * form);
            due.is("one more", x.list(1, 3, 0), -12);
        }
    }

    private static void years() {
        due.says("are rows of up to 30 WORDS of a YEAR (0 to 3000)");
        ArmCounts x = new ArmCounts();
        x.sheet(0, 0, 0);
        due.is("-1", x.list(0, 0, -1), BAD);
        due.is("3001", x.list(0, 0, 3001), BAD);
        due.is("0", x.list(0, 0, 0), 0);
        due.is("3000", x.list(0, 0, 3000), 1);
        due.is("YEAR 0", x.listIs(0, 1), 0);
        due.is("YEAR 3000", x.listIs(1, 1), 3000);
        due.is("0 is lesser", x.mother(1), 0);
        due.is("none is lesser than 0", x.mother(0), NONE);
    }

    private static void lostItems() {
        due.says("some of them lost (NONE).");
        ArmCounts x = new ArmCounts();
        int[] items = {World.LEAST, -1, 0, 99, 100, 255, 256, World.MOST};
        int[] words = {LOST, LOST, 0, 99, LOST, LOST, LOST, LOST};
        Due.sheet(x, 0, 2, items);
        x.list(0, 8, 1);
        for (int i = 0; i < 8; i++) {
            due.is("of " + items[i], x.word(0, i), words[i]);
        }
        due.is("lost ones", x.listIs(0, 2), 6);
        Due.sheet(x, 1, 0, items);
        x.list(1, 8, 1);
        int[] bytes = {0, LOST, 0, 99, LOST, LOST, 0, LOST};
        for (int i = 0; i < 8; i++) {
            due.is("byte of " + items[i], x.word(1, i), bytes[i]);
        }
        x.lose(0);
        x.lose(1);
        due.is("a LIST stays without its SHEET", x.word(0, 3), 99);
    }

    private static void items() {
        due.says("Item i of a LIST (NONE: lost). BAD.");
        ArmCounts x = new ArmCounts();
        Due.list(x, 0, 7, LOST, 9);
        Due.list(x, 0);
        Due.list(x, 0, Due.row(30, 60));
        due.is("-1", x.word(0, -1), BAD);
        due.is("the first", x.word(0, 0), 7);
        due.is("a lost one", x.word(0, 1), NONE);
        due.is("the last", x.word(0, 2), 9);
        due.is("behind it", x.word(0, 3), BAD);
        due.is("of none", x.word(1, 0), BAD);
        due.is("the last of 30", x.word(2, 29), 89);
        due.is("behind 30", x.word(2, 30), BAD);
    }

    private static void lostOnes() {
        due.says("Of a LIST: 0 how many items, 1 YEAR, 2 lost ones, 3 those OF TENS, 4 whether SHOPPED. BAD.");
        ArmCounts x = new ArmCounts();
        Due.list(x, 3);
        Due.list(x, 4, LOST, LOST, LOST);
        Due.list(x, 5, 1, 2, 3);
        int[][] want = {{0, 3, 0, 0, 0}, {3, 4, 3, 0, 0}, {3, 5, 0, 0, 0}};
        for (int l = 0; l < 3; l++) {
            for (int what = 0; what < 5; what++) {
                due.is("listIs(" + l + ", " + what + ")", x.listIs(l, what), want[l][what]);
            }
            due.is("what -1", x.listIs(l, -1), BAD);
            due.is("what 5", x.listIs(l, 5), BAD);
        }
    }

    /** A LIST of n items, those from 10 on alike with item i modulo 10. */
    private static int[] tens(int n) {
        int[] row = new int[n];
        for (int i = 0; i < n; i++) {
            row[i] = 20 + i % 10;
        }
        return row;
    }

    private static void ofTens() {
        due.says("TENS: a LIST's WORDS as by shops: item i (from 0) is OF TENS, if it is not lost, and item i modulo 10 neither, and both are alike, for i 10 and above.");
        for (int n : new int[] {0, 1, 9, 10, 11, 12, 20, 21, 30}) {
            ArmCounts x = new ArmCounts();
            Due.list(x, 0, tens(n));
            due.is(n + " items", x.listIs(0, 3), Math.max(0, n - 10));
            due.is("SHOPPED", x.listIs(0, 4), n > 10 ? 1 : 0);
        }
        for (int at : new int[] {10, 19, 20, 29}) {
            ArmCounts x = new ArmCounts();
            int[] row = Due.row(30, 50);
            row[at] = row[at % 10];
            Due.list(x, 0, row);
            due.is("item " + at + " alone", x.listIs(0, 3), 1);
            row[at] = LOST;
            Due.list(x, 0, row);
            due.is("it is lost", x.listIs(1, 3), 0);
            row[at % 10] = LOST;
            Due.list(x, 0, row);
            due.is("both are lost", x.listIs(2, 3), 0);
            row[at] = 50;
            Due.list(x, 0, row);
            due.is("the one below 10 is lost", x.listIs(3, 3), 0);
        }
        ArmCounts x = new ArmCounts();
        int[] row = Due.row(30, 50);
        row[20] = row[10];
        Due.list(x, 0, row);
        due.is("alike with item 10, not with item 0", x.listIs(0, 3), 0);
    }

    private static void shopped() {
        due.says("SHOPPED is a LIST, if half or more of all items from 10 on that could be (both not lost) are, and there is one.");
        for (int could = 0; could <= 20; could++) {
            for (int are : new int[] {0, (could - 1) / 2, could / 2, (could + 1) / 2, could}) {
                ArmCounts x = new ArmCounts();
                int[] row = tens(10 + could);
                for (int i = 10 + are; i < row.length; i++) {
                    row[i] = 77;
                }
                Due.list(x, 0, row);
                due.is(are + " of " + could, x.listIs(0, 4), could > 0 && 2 * are >= could ? 1 : 0);
            }
        }
        ArmCounts x = new ArmCounts();
        int[] row = tens(14);
        row[11] = 77;
        row[12] = 77;
        Due.list(x, 0, row);
        due.is("2 of 4", x.listIs(0, 4), 1);
        row[13] = LOST;
        Due.list(x, 0, row);
        due.is("1 of 3", x.listIs(1, 4), 0);
        row[2] = LOST;
        Due.list(x, 0, row);
        due.is("1 of 2 that could be", x.listIs(2, 4), 1);
        row[0] = LOST;
        Due.list(x, 0, row);
        due.is("0 of 1", x.listIs(3, 4), 0);
        row[1] = LOST;
        Due.list(x, 0, row);
        due.is("none could be", x.listIs(4, 4), 0);
    }

    private static void changesOfItems() {
        due.says("CHANGES from one to another, item by item from the first on: an item that is lost in either counts 0; WORDS that are unlike 3; an item that is put in, or left out, 2 (lost ones, too)");
        ArmCounts x = new ArmCounts();
        Due.list(x, 0, 5);
        Due.list(x, 0, 6);
        Due.list(x, 0, LOST);
        Due.list(x, 0);
        Due.list(x, 0, LOST, LOST);
        Due.list(x, 0, 5, 6);
        Due.list(x, 0, 6, 5);
        int[][] want = {
            {0, 3, 0, 2, 2, 2, 2},
            {3, 0, 0, 2, 2, 2, 2},
            {0, 0, 0, 2, 2, 2, 2},
            {2, 2, 2, 0, 4, 4, 4},
            {2, 2, 2, 4, 0, 0, 0},
            {2, 2, 2, 4, 0, 0, 4},
            {2, 2, 2, 4, 0, 4, 0},
        };
        for (int a = 0; a < 7; a++) {
            for (int b = 0; b < 7; b++) {
                due.is("changes(" + a + ", " + b + ")", x.changes(a, b), want[a][b]);
            }
        }
    }

    private static void changesByLength() {
        due.says("the least sum of all ways to make the one of the other.");
        ArmCounts x = new ArmCounts();
        Due.list(x, 0);
        Due.list(x, 0, Due.row(30, 0));
        Due.list(x, 0, Due.row(30, 30));
        Due.list(x, 0, Due.row(30, 1));
        Due.list(x, 0, Due.row(30, 15));
        Due.list(x, 0, Due.row(30, 23));
        Due.list(x, 0, Due.row(29, 1));
        due.is("none of none", x.changes(0, 0), 0);
        due.is("30 of none", x.changes(0, 1), 60);
        due.is("none of 30", x.changes(1, 0), 60);
        due.is("30 of themselves", x.changes(1, 1), 0);
        due.is("30 unlike ones", x.changes(1, 2), 90);
        due.is("one left out ahead and one put in behind", x.changes(1, 3), 4);
        due.is("one put in ahead and one left out behind", x.changes(3, 1), 4);
        due.is("15 left out and put in", x.changes(1, 4), 60);
        due.is("23 are more than 30 unlike ones", x.changes(1, 5), 90);
        due.is("the first left out", x.changes(1, 6), 2);
        due.is("the first put in", x.changes(6, 1), 2);
        due.says("CHANGES from one LIST to another. BAD.");
        due.is("no LIST 7", x.changes(0, 7), BAD);
        due.is("no LIST 7 first", x.changes(7, 0), BAD);
    }

    private static void lesserYear() {
        due.says("MOTHER of a LIST: of those of lesser YEAR that with the least CHANGES to it,");
        ArmCounts x = new ArmCounts();
        Due.list(x, 100, 1, 2, 3);
        due.is("alone", x.mother(0), NONE);
        Due.list(x, 100, 1, 2, 3);
        Due.list(x, 101, 1, 2, 3);
        due.is("the same YEAR and a later one", x.mother(0), NONE);
        due.is("a later one has it", x.mother(2), 0);
        Due.list(x, 99, 9, 9, 9, 9, 9, 9);
        due.is("one YEAR less, whatever the CHANGES", x.mother(0), 3);
        Due.list(x, 98, 9, 9, 9);
        due.is("15 CHANGES against 9", x.mother(0), 4);
        Due.list(x, 0);
        due.is("6 CHANGES", x.mother(0), 5);
        Due.list(x, 98, 1, LOST, 4);
        due.is("3 CHANGES", x.mother(0), 6);
        due.is("the eldest", x.mother(5), NONE);
    }

    private static void likeMothers() {
        due.says("MOTHER; NONE. BAD.");
        due.is("no LIST yet", new ArmCounts().mother(0), BAD);
        due.says("of like ones the later YEAR, then the least number; NONE without any.");
        ArmCounts x = new ArmCounts();
        Due.list(x, 50, 1);
        Due.list(x, 48, 2);
        due.is("48", x.mother(0), 1);
        Due.list(x, 49, 3);
        due.is("49", x.mother(0), 2);
        Due.list(x, 49, 4);
        due.is("49 again", x.mother(0), 2);
        Due.list(x, 47, 5);
        due.is("47", x.mother(0), 2);
        Due.list(x, 50, 6);
        due.is("50 is not lesser", x.mother(0), 2);
        Due.list(x, 1, LOST);
        due.is("fewer CHANGES ahead of a later YEAR", x.mother(0), 6);
        Due.list(x, 2, LOST);
        due.is("and then the later YEAR", x.mother(0), 7);
        due.is("NONE", x.mother(6), NONE);
    }

    private static void twoMothers() {
        due.says("Two MOTHERS: two unlike LISTS of lesser YEAR and as long as it,");
        ArmCounts x = new ArmCounts();
        Due.list(x, 50, 1, 2);
        due.is("alone", x.mothers(0), NONE);
        due.is("strange alone", x.strange(0), NONE);
        Due.list(x, 49, 8, 8);
        due.is("one is not two", x.mothers(0), NONE);
        Due.list(x, 50, 8, 8);
        due.is("not of the same YEAR", x.mothers(0), NONE);
        Due.list(x, 49, 8);
        due.is("not shorter", x.mothers(0), NONE);
        Due.list(x, 49, 8, 8, 8);
        due.is("not longer", x.mothers(0), NONE);
        due.is("strange without two", x.strange(0), NONE);
        Due.list(x, 49, 9, 9);
        due.is("two", x.mothers(0), 15);
        due.is("strange", x.strange(0), 2);
        due.is("of one of lesser YEAR", x.mothers(5), NONE);
        due.says("Two MOTHERS: 10 times the lesser LIST and the other; NONE: there are not two. BAD.");
        x = new ArmCounts();
        for (int l = 0; l < 6; l++) {
            Due.list(x, 60, 1);
        }
        Due.list(x, 1, 1);
        Due.list(x, 2, 5);
        due.is("the last two", x.mothers(0), 67);
        due.is("of the lesser one", x.strange(0), 0);
        x = new ArmCounts();
        for (int l = 0; l < 6; l++) {
            Due.list(x, 60, 1);
        }
        Due.list(x, 1, 5);
        Due.list(x, 2, 1);
        due.is("the last two again", x.mothers(0), 67);
        due.is("of the other one", x.strange(0), 0);
        x = new ArmCounts();
        Due.list(x, 1);
        Due.list(x, 2);
        Due.list(x, 3);
        due.is("the first two", x.mothers(2), 1);
        due.is("of no items none is strange", x.strange(2), 0);
        due.is("the second has one", x.mothers(1), NONE);
    }

    private static void likeTwo() {
        due.says("the least, of like ones the two least LISTS.");
        ArmCounts x = new ArmCounts();
        Due.list(x, 90, 1, 2, 3);
        Due.list(x, 1, 1, 7, 7);
        Due.list(x, 2, 8, 8, 8);
        Due.list(x, 3, 9, 2, 9);
        Due.list(x, 4, 6, 2, 6);
        Due.list(x, 5, 5, 5, 3);
        due.is("1 3 with one, as 1 4, 1 5, 3 5", x.mothers(0), 13);
        due.is("one is strange", x.strange(0), 1);
        Due.list(x, 6, 1, 5, 3);
        due.is("3 6 with none ahead of 1 6 with one", x.mothers(0), 36);
        due.is("none is strange", x.strange(0), 0);
        Due.list(x, 7, 1, 5, 3);
        due.is("3 6 ahead of 3 7 and 4 6", x.mothers(0), 36);
    }

    private static void strange() {
        due.says("and each of its items of the one or the other: so many WORDS are unlike both (lost ones aside: an item lost in it counts 0, one lost in either as like)");
        int[][] rows = {
            {5, 5, 5, 0}, {5, 5, 6, 0}, {5, 6, 5, 0}, {5, 6, 6, 1}, {5, 6, 7, 1}, {LOST, 6, 7, 0}, {LOST, LOST, 7, 0},
            {5, LOST, 7, 0}, {5, 7, LOST, 0}, {5, LOST, LOST, 0}, {LOST, LOST, LOST, 0}, {LOST, 6, 6, 0},
        };
        int sum = 0;
        int[][] three = new int[3][rows.length];
        for (int i = 0; i < rows.length; i++) {
            ArmCounts x = new ArmCounts();
            for (int l = 0; l < 3; l++) {
                Due.list(x, 10 - l, rows[i][l]);
                three[l][i] = rows[i][l];
            }
            due.is("row " + i, x.strange(0), rows[i][3]);
            sum += rows[i][3];
        }
        ArmCounts x = new ArmCounts();
        for (int l = 0; l < 3; l++) {
            Due.list(x, 10 - l, three[l]);
        }
        due.is("all of them", x.strange(0), sum);
        due.says("How many of its WORDS are unlike both; NONE as mothers(). BAD.");
        x = new ArmCounts();
        Due.list(x, 2, Due.row(30, 0));
        Due.list(x, 1, Due.row(30, 30));
        Due.list(x, 1, Due.row(30, 60));
        due.is("30", x.strange(0), 30);
        due.is("NONE", x.strange(1), NONE);
        due.is("no LIST 3", x.strange(3), BAD);
    }

    private static void age() {
        due.says("How often one can go from a LIST to its MOTHER, from that to its MOTHER, and so on. BAD.");
        ArmCounts x = new ArmCounts();
        for (int l = 0; l < 8; l++) {
            due.is("not there yet", x.age(l), BAD);
            Due.list(x, 7 - l, Due.row(l + 1, 0));
            due.is("without a lesser YEAR", x.age(l), 0);
        }
        for (int l = 0; l < 8; l++) {
            due.is("LIST " + l, x.age(l), 7 - l);
        }
        x = new ArmCounts();
        Due.list(x, 9, 1, 2, 3);
        Due.list(x, 8, 4, 5, 6);
        Due.list(x, 7, 4, 5, 3);
        Due.list(x, 6, 1, 2, 6);
        due.is("straight to the MOTHER of fewest CHANGES", x.age(0), 1);
        due.is("by two", x.age(1), 2);
        due.is("by one", x.age(2), 1);
        due.is("by none", x.age(3), 0);
    }

    private static void slips() {
        due.says("At how many items two LISTS have one WORD (lost ones aside), that no LIST of a YEAR below both of them has at that item.");
        ArmCounts x = new ArmCounts();
        Due.list(x, 50, 1, 2, LOST, 4, 5);
        Due.list(x, 60, 1, 2, LOST, 4);
        due.is("three, the lost ones aside", x.slips(0, 1), 3);
        due.is("turned", x.slips(1, 0), 3);
        Due.list(x, 50, 1, LOST, LOST, LOST, 5);
        due.is("the lesser YEAR of both is not below both", x.slips(0, 1), 3);
        due.is("with it", x.slips(0, 2), 2);
        Due.list(x, 55, LOST, 2, LOST, LOST);
        due.is("between both is not below both", x.slips(0, 1), 3);
        Due.list(x, 49, LOST, LOST, 1, 4);
        due.is("one YEAR below both", x.slips(0, 1), 2);
        Due.list(x, 0, 2, 1);
        due.is("at another item", x.slips(0, 1), 2);
        Due.list(x, 3000);
        due.is("with none", x.slips(0, 6), 0);
        due.is("none with it", x.slips(6, 0), 0);
        due.is("itself", x.slips(0, 0), BAD);
        due.is("no LIST 7", x.slips(0, 7), BAD);
        x = new ArmCounts();
        Due.list(x, 0, Due.row(30, 0));
        Due.list(x, 3000, Due.row(30, 0));
        due.is("30", x.slips(0, 1), 30);
        Due.list(x, 3000, Due.row(29, 0));
        due.is("as LIST 0 has", x.slips(1, 2), 0);
        due.is("29", x.slips(0, 2), 29);
        due.is("turned", x.slips(2, 0), 29);
    }
}
