/** Promises 29 to 37. */
public final class ListsTest {
    private static final Due due = new Due("ListsTest");
    private static final int LOST = -1;

    public static void main(String[] args) {
        list();
        listIs();
        shopped();
        changes();
        mother();
        mothers();
        age();
        slips();
        due.end();
    }

    private static void list() {
        ArmCounts x = new ArmCounts();
        due.is("lost sheet", x.list(0, 0, 0), -11);
        due.is("sheet -1", x.list(-1, 0, 0), -2);
        due.is("sheet 4", x.list(4, 0, 0), -2);
        due.is("n -1", x.list(0, -1, 0), -2);
        due.is("n 31", x.list(0, 31, 0), -2);
        due.is("year -1", x.list(0, 0, -1), -2);
        due.is("year 3001", x.list(0, 0, 3001), -2);
        Due.sheet(x, 0, 2, Due.row(31, 80));
        due.is("30 items", x.list(0, 30, 3000), 0);
        due.is("last word", x.word(0, 19), 99);
        due.is("100 is lost", x.word(0, 20), -1);
        due.is("last item", x.word(0, 29), -1);
        due.is("no item 30", x.word(0, 30), -2);
        due.is("no item -1", x.word(0, -1), -2);
        due.is("no list", x.word(1, 0), -2);
        due.is("no list -1", x.word(-1, 0), -2);
        x.put(0, 2, 0, 5);
        due.is("a list keeps its words", x.word(0, 0), 80);
        due.is("no items", x.list(0, 0, 0), 1);
        due.is("no item 0", x.word(1, 0), -2);
        Due.sheet(x, 1, 0, 0, -1, 99, 100);
        due.is("not so many", x.list(1, 5, 10), -12);
        due.is("count(8)", x.count(8), 2);
        due.is("bytes", x.list(1, 4, 10), 2);
        int[] want = {0, LOST, 99, LOST};
        for (int i = 0; i < 4; i++) {
            due.is("item " + i, x.word(2, i), want[i]);
        }
        for (int l = 3; l < 8; l++) {
            due.is("list " + l, x.list(1, 1, l), l);
        }
        due.is("FULL", x.list(1, 1, 1), -4);
        due.is("NULL ahead of FULL", x.list(2, 1, 1), -11);
        due.is("FULL with all items", x.list(1, 4, 1), -4);
        due.is("FULL is no finding", x.count(8), 1);
        due.is("INDEX ahead of FULL", x.list(1, 5, 1), -12);
        due.is("count(8) INDEX", x.count(8), 2);
        due.is("BAD ahead of FULL", x.list(1, 31, 1), -2);
        due.is("eight", x.count(4), 8);
    }

    private static void listIs() {
        ArmCounts x = new ArmCounts();
        Due.list(x, 1234, 1, LOST, 3, 4, 5, 6, 7, 8, 9, 10, 1, 2, LOST, 4, 7);
        int[] want = {15, 1234, 2, 2, 1};
        for (int what = 0; what < 5; what++) {
            due.is("listIs(0, " + what + ")", x.listIs(0, what), want[what]);
        }
        Due.list(x, 0, LOST, LOST, 3);
        due.is("the first is lost", x.listIs(1, 2), 2);
        due.is("what 5", x.listIs(0, 5), -2);
        due.is("what -1", x.listIs(0, -1), -2);
        due.is("list 2", x.listIs(2, 0), -2);
        due.is("list -1", x.listIs(-1, 0), -2);
    }

    private static void shopped() {
        ArmCounts x = new ArmCounts();
        Due.list(x, 0, 1, 1, 1, 1, 1, 1, 1, 1, 1, 1);
        Due.list(x, 0, 1, 2, 3, 4, 5, 6, 7, 8, 9, 10, 1, 0);
        Due.list(x, 0, 1, 2, 3, 4, 5, 6, 7, 8, 9, 10, 1, 0, 0);
        Due.list(x, 0, LOST, 2, 3, 4, 5, 6, 7, 8, 9, 10, LOST, LOST);
        Due.list(x, 0, 1, 2, 3, 4, 5, 6, 7, 8, 9, 10, 11, 12, 13, 14, 15, 16, 17, 18, 19, 20, 1, 2, 13, 14, 15, 16, 17, 18, 19, 20);
        Due.list(x, 0, 1, 2, 3, 4, 5, 6, 7, 8, 9, 10, 1);
        Due.list(x, 0, LOST, 2, LOST, 4, 5, 6, 7, 8, 9, 10, LOST, 3, 5, LOST);
        Due.list(x, 0, LOST, 2, LOST, 4, 5, 6, 7, 8, 9, 10, 7, 3, 5, LOST, 5);
        int[] tens = {0, 1, 1, 0, 2, 1, 0, 1};
        int[] shopped = {0, 1, 0, 0, 0, 1, 0, 1};
        for (int l = 0; l < 8; l++) {
            due.is("of tens " + l, x.listIs(l, 3), tens[l]);
            due.is("shopped " + l, x.listIs(l, 4), shopped[l]);
        }
    }

    private static void changes() {
        ArmCounts x = new ArmCounts();
        Due.list(x, 0, 1, 2, 3);
        Due.list(x, 0, 1, 3);
        Due.list(x, 0, 4, 5, 6);
        Due.list(x, 0);
        Due.list(x, 0, LOST, LOST, LOST, LOST);
        Due.list(x, 0, 3, 1, 2);
        Due.list(x, 0, 1, LOST, 4);
        int[][] want = {
            {0, 2, 9, 6, 2, 4, 3},
            {2, 0, 8, 4, 4, 5, 2},
            {9, 8, 0, 6, 2, 9, 6},
            {6, 4, 6, 0, 8, 6, 6},
            {2, 4, 2, 8, 0, 2, 2},
            {4, 5, 9, 6, 2, 0, 4},
            {3, 2, 6, 6, 2, 4, 0},
        };
        for (int a = 0; a < 7; a++) {
            for (int b = 0; b < 7; b++) {
                due.is("changes(" + a + ", " + b + ")", x.changes(a, b), want[a][b]);
            }
        }
        Due.list(x, 0, Due.row(30, 50));
        due.is("thirty put in", x.changes(3, 7), 60);
        due.is("thirty left out", x.changes(7, 3), 60);
        due.is("thirty kept", x.changes(7, 7), 0);
        due.is("thirty of three", x.changes(0, 7), 63);
        due.is("no list", x.changes(0, 8), -2);
        due.is("no list -1", x.changes(-1, 0), -2);
    }

    private static void mother() {
        ArmCounts x = new ArmCounts();
        due.is("no list", x.mother(0), -2);
        Due.list(x, 100, 1, 2, 3);
        due.is("none", x.mother(0), -1);
        Due.list(x, 100, 1, 2, 3);
        due.is("none of the same year", x.mother(1), -1);
        Due.list(x, 99, 1, 9, 8);
        due.is("one", x.mother(0), 2);
        Due.list(x, 98, 1, 9, 9);
        due.is("of like ones the later year", x.mother(0), 2);
        Due.list(x, 99, 7, 2, 7);
        due.is("then the least number", x.mother(0), 2);
        Due.list(x, 5, 1, 2, 7);
        due.is("fewest changes", x.mother(0), 5);
        Due.list(x, 101, 1, 2, 3);
        due.is("like in number of changes", x.mother(6), 0);
        due.is("the eldest", x.mother(5), -1);
        due.is("list 7", x.mother(7), -2);
        due.is("list -1", x.mother(-1), -2);
        motherYears();
    }

    private static void motherYears() {
        ArmCounts x = new ArmCounts();
        Due.list(x, 10, 1, 2);
        Due.list(x, 100, 1, 3);
        Due.list(x, 50, 1, 4);
        Due.list(x, 60, 5, 5);
        due.is("a later year with more changes", x.mother(1), 2);
        Due.list(x, 70, 1, 7);
        due.is("a later year with as many", x.mother(1), 4);
        Due.list(x, 70, 1, 7);
        due.is("the same year with as many", x.mother(1), 4);
    }

    private static void mothers() {
        ArmCounts x = new ArmCounts();
        due.is("no list", x.mothers(0), -2);
        due.is("strange of no list", x.strange(0), -2);
        Due.list(x, 50, 1, 2, 3, 4);
        due.is("alone", x.mothers(0), -1);
        due.is("strange alone", x.strange(0), -1);
        Due.list(x, 10, 1, 2, 9, 9);
        due.is("one is not two", x.mothers(0), -1);
        Due.list(x, 10, 1, 2, 3);
        due.is("not as long", x.mothers(0), -1);
        Due.list(x, 50, 1, 2, 3, 4);
        due.is("not of a lesser year", x.mothers(0), -1);
        Due.list(x, 20, 8, 8, 3, 8);
        due.is("two", x.mothers(0), 14);
        due.is("one word is strange", x.strange(0), 1);
        Due.list(x, 20, 8, 8, 3, 8);
        due.is("of like ones the least", x.mothers(0), 14);
        Due.list(x, 30, 7, 7, LOST, 4);
        due.is("lost ones are as like", x.mothers(0), 16);
        due.is("none is strange", x.strange(0), 0);
        due.is("of a later one too", x.mothers(3), 16);
        due.is("1 has none", x.mothers(1), -1);
        Due.list(x, 60, LOST, LOST, 77, LOST);
        due.is("lost in it", x.strange(7), 0);
        due.is("of it with a lost one", x.mothers(7), 6);
        due.is("-1", x.mothers(-1), -2);
        due.is("8", x.mothers(8), -2);
        due.is("strange -1", x.strange(-1), -2);
        due.is("strange 8", x.strange(8), -2);
        empties();
    }

    private static void empties() {
        ArmCounts x = new ArmCounts();
        Due.list(x, 3);
        Due.list(x, 2);
        Due.list(x, 1);
        due.is("two empty ones", x.mothers(0), 12);
        due.is("nothing strange", x.strange(0), 0);
        due.is("1 has one", x.mothers(1), -1);
        Due.list(x, 1, 4, 5);
        Due.list(x, 1, 4, 5);
        Due.list(x, 9, 3, 5);
        due.is("two of two words", x.mothers(5), 34);
        due.is("the first word is strange", x.strange(5), 1);
    }

    private static void age() {
        ArmCounts x = new ArmCounts();
        due.is("no list", x.age(0), -2);
        for (int l = 0; l < 8; l++) {
            Due.list(x, 100 + l, Due.row(l + 1, 0));
        }
        for (int l = 0; l < 8; l++) {
            due.is("age " + l, x.age(l), l);
        }
        due.is("-1", x.age(-1), -2);
        due.is("8", x.age(8), -2);
    }

    private static void slips() {
        ArmCounts x = new ArmCounts();
        Due.list(x, 100, 1, 2, LOST, 4, 5);
        Due.list(x, 200, 1, 3, LOST, 4, 5, 6);
        due.is("three", x.slips(0, 1), 3);
        due.is("the same backward", x.slips(1, 0), 3);
        Due.list(x, 99, 9, 9, 9, 4);
        due.is("4 was there", x.slips(0, 1), 2);
        Due.list(x, 100, 1, 2, 3, 4, 5);
        due.is("not below both", x.slips(0, 1), 2);
        Due.list(x, 150, 1, 1, 1, 1, 5);
        due.is("between the two", x.slips(0, 1), 2);
        Due.list(x, 0, 5, 1, 1, 1, LOST);
        due.is("at another item", x.slips(0, 1), 2);
        due.is("earlier ones have both", x.slips(1, 4), 0);
        due.is("itself", x.slips(1, 1), -2);
        due.is("no list", x.slips(1, 6), -2);
        due.is("no list -1", x.slips(-1, 1), -2);
        x = new ArmCounts();
        Due.list(x, 1, 7, 7);
        Due.list(x, 2, 7, 8);
        Due.list(x, 3, 7, 8);
        due.is("list 0 has the first", x.slips(1, 2), 1);
    }
}
