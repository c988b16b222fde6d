/** Promises 45 to 52. */
public final class SheetsTest {
    private static final Due due = new Due("SheetsTest");
    private static final int LEAST = Integer.MIN_VALUE;

    public static void main(String[] args) {
        sheet();
        lose();
        put();
        get();
        copy();
        write();
        count();
        digest();
        due.end();
    }

    private static void sheet() {
        ArmCounts x = new ArmCounts();
        due.is("bytes", x.sheet(0, 0, 60), 60);
        due.is("shorts", x.sheet(1, 1, 1), 1);
        due.is("ints", x.sheet(3, 2, 0), 0);
        due.is("not lost", x.count(7), 3);
        due.is("item 59", x.get(0, 0, 59), 0);
        due.is("sheet -1", x.sheet(-1, 0, 1), -2);
        due.is("sheet 4", x.sheet(4, 0, 1), -2);
        due.is("form -1", x.sheet(0, -1, 1), -2);
        due.is("form 3", x.sheet(0, 3, 1), -2);
        due.is("61", x.sheet(0, 0, 61), -2);
        due.is("no finding", x.count(8), 0);
        due.is("SIZE", x.sheet(0, 0, -1), -15);
        due.is("SIZE of the least", x.sheet(0, 0, LEAST), -15);
        due.is("count(8)", x.count(8), 5);
        due.is("BAD ahead of SIZE", x.sheet(0, 3, -1), -2);
        due.is("still there", x.get(0, 0, 59), 0);
        x.put(0, 0, 3, 77);
        due.is("SIZE leaves it", x.sheet(0, 1, -1), -15);
        due.is("as it was", x.get(0, 0, 3), 77);
        due.is("new row", x.sheet(0, 0, 5), 5);
        due.is("0 at first", x.get(0, 0, 3), 0);
    }

    private static void lose() {
        ArmCounts x = new ArmCounts();
        due.is("NULL", x.lose(0), -11);
        due.is("count(8)", x.count(8), 1);
        x.sheet(0, 1, 7);
        due.is("seven", x.lose(0), 7);
        due.is("again", x.lose(0), -11);
        x.sheet(0, 1, 0);
        due.is("of none", x.lose(0), 0);
        due.is("all lost", x.count(7), 0);
        due.is("sheet -1", x.lose(-1), -2);
        due.is("sheet 4", x.lose(4), -2);
        x.sheet(2, 2, 4);
        x.put(2, 2, 0, 9);
        x.lose(2);
        x.sheet(2, 2, 4);
        due.is("a new row", x.get(2, 2, 0), 0);
    }

    private static void put() {
        ArmCounts x = new ArmCounts();
        due.is("NULL", x.put(0, 0, 0, 1), -11);
        x.sheet(0, 0, 3);
        x.sheet(1, 1, 3);
        x.sheet(2, 2, 3);
        int[] values = {0, 1, 127, 128, 255, 256, -1, -128, -129, 32767, 32768, 65535, 65536, -32769, LEAST, 0x12345678};
        for (int v : values) {
            due.is("byte", x.put(0, 0, 2, v), 1);
            due.is("short", x.put(1, 1, 2, v), 1);
            due.is("int", x.put(2, 2, 2, v), 1);
            due.is("byte " + v, x.get(0, 0, 2), (byte) v);
            due.is("short " + v, x.get(1, 1, 2), (short) v);
            due.is("int " + v, x.get(2, 2, 2), v);
        }
        due.is("INDEX 3", x.put(0, 0, 3, 1), -12);
        due.is("INDEX -1", x.put(0, 0, -1, 1), -12);
        due.is("count(8)", x.count(8), 2);
        due.is("CAST", x.put(0, 1, 0, 1), -13);
        due.is("count(8) CAST", x.count(8), 3);
        due.is("CAST ahead of INDEX", x.put(0, 2, 3, 1), -13);
        due.is("NULL ahead of CAST", x.put(3, 2, 9, 1), -11);
        due.is("sheet 4", x.put(4, 0, 0, 1), -2);
        due.is("sheet -1", x.put(-1, 0, 0, 1), -2);
        due.is("form 3", x.put(0, 3, 0, 1), -2);
        due.is("form -1", x.put(0, -1, 0, 1), -2);
        due.is("item 0 as it was", x.get(0, 0, 0), 0);
    }

    private static void get() {
        ArmCounts x = new ArmCounts();
        due.is("NULL", x.get(0, 0, 0), LEAST);
        due.is("count(8) NULL", x.count(8), 1);
        x.sheet(0, 1, 2);
        due.is("an item", x.get(0, 1, 1), 0);
        due.is("CAST", x.get(0, 2, 1), LEAST);
        due.is("count(8) CAST", x.count(8), 3);
        due.is("INDEX", x.get(0, 1, 2), LEAST);
        due.is("count(8) INDEX", x.count(8), 2);
        due.is("CAST ahead of INDEX", x.get(0, 0, 2), LEAST);
        due.is("count(8) CAST again", x.count(8), 3);
        due.is("INDEX -1", x.get(0, 1, -1), LEAST);
        due.is("count(8) INDEX again", x.count(8), 2);
        x.lose(3);
        due.is("sheet 4", x.get(4, 0, 0), LEAST);
        due.is("sheet -1", x.get(-1, 0, 0), LEAST);
        due.is("form 3", x.get(0, 3, 0), LEAST);
        due.is("form -1", x.get(0, -1, 0), LEAST);
        due.is("BAD is no finding", x.count(8), 1);
    }

    private static void row(ArmCounts x, String what, int s, int form, int... want) {
        for (int i = 0; i < want.length; i++) {
            due.is(what + ", item " + i, x.get(s, form, i), want[i]);
        }
    }

    private static void copy() {
        ArmCounts x = new ArmCounts();
        Due.sheet(x, 0, 1, 1, 2, 3, 4, 5);
        Due.sheet(x, 1, 1, 0, 0, 0);
        Due.sheet(x, 2, 2, 0, 0, 0);
        due.is("copy", x.copy(0, 2, 1, 1, 2), 1);
        row(x, "copied", 1, 1, 0, 3, 4);
        due.is("onto itself", x.copy(0, 0, 0, 1, 4), 1);
        row(x, "as they were", 0, 1, 1, 1, 2, 3, 4);
        due.is("back", x.copy(0, 1, 0, 0, 4), 1);
        row(x, "as they were, back", 0, 1, 1, 2, 3, 4, 4);
        due.is("none at the ends", x.copy(0, 5, 1, 3, 0), 1);
        due.is("none behind the end", x.copy(0, 6, 1, 3, 0), -12);
        due.is("not so many of s", x.copy(0, 3, 1, 0, 3), -12);
        due.is("not so many of t", x.copy(0, 0, 1, 1, 3), -12);
        due.is("i below 0", x.copy(0, -1, 1, 0, 1), -12);
        due.is("j below 0", x.copy(0, 0, 1, -1, 1), -12);
        due.is("n below 0", x.copy(0, 0, 1, 0, -1), -12);
        int max = Integer.MAX_VALUE;
        due.is("large n", x.copy(0, 1, 1, 0, max), -12);
        due.is("large i", x.copy(0, max, 1, 0, max), -12);
        due.is("large j", x.copy(0, 0, 1, max, 1), -12);
        due.is("least i", x.copy(0, LEAST, 1, 0, 1), -12);
        due.is("STORE", x.copy(0, 0, 2, 0, 1), -14);
        due.is("count(8)", x.count(8), 4);
        due.is("STORE of none", x.copy(0, 0, 2, 0, 0), -14);
        due.is("STORE ahead of INDEX", x.copy(0, -1, 2, 0, 9), -14);
        due.is("NULL s", x.copy(3, 0, 0, 0, 1), -11);
        due.is("NULL t", x.copy(0, -1, 3, 0, 1), -11);
        due.is("s 4", x.copy(4, 0, 0, 0, 1), -2);
        due.is("t -1", x.copy(0, 0, -1, 0, 1), -2);
        due.is("BAD ahead of NULL", x.copy(3, 0, 4, 0, 1), -2);
        row(x, "unchanged", 1, 1, 0, 3, 4);
    }

    private static void write() {
        ArmCounts x = new ArmCounts();
        Due.count(x, true, 10, 20, 99);
        due.is("NULL", x.write(0, 0, 1, 1), -11);
        x.sheet(0, 0, 7);
        due.is("seven", x.write(0, 0, 1, 1), 7);
        row(x, "words", 0, 0, 10, 20, 99, 20, 10, 10, 20);
        due.is("by 2 from 3", x.write(0, 0, 3, 2), 7);
        row(x, "by 2", 0, 0, 99, 10, 20, 20, 10, 99, 10);
        x.sheet(1, 2, 60);
        x.put(1, 2, 16, -5);
        due.is("to 399", x.write(1, 0, 99, 20), 16);
        due.is("the last", x.get(1, 2, 15), 20);
        due.is("behind it", x.get(1, 2, 16), -5);
        due.is("to 400", x.write(1, 0, 96, 8), 39);
        due.is("word of 400", x.get(1, 2, 38), 10);
        x.sheet(2, 1, 0);
        due.is("no items", x.write(2, 0, 1, 1), 0);
        due.is("sheet 4", x.write(4, 0, 1, 1), -2);
        due.is("count 1", x.write(0, 1, 1, 1), -2);
        due.is("start 0", x.write(0, 0, 0, 1), -2);
        due.is("start 100", x.write(0, 0, 100, 1), -2);
        due.is("step 0", x.write(0, 0, 1, 0), -2);
        due.is("step 21", x.write(0, 0, 1, 21), -2);
        due.is("BAD ahead of NULL", x.write(3, 0, 1, 21), -2);
    }

    /** An object that has some of everything. */
    private static ArmCounts rich() {
        ArmCounts x = new ArmCounts();
        Due.count(x, true, 10, 20, 99);
        Due.count(x, false, 3, 4);
        x.begins(1, 1);
        x.mat(12);
        x.clue(0, 0, 10, -1, -1);
        x.less(0, 1);
        x.person(0);
        x.person(1);
        x.person(0);
        x.gift(0, 1, 9);
        x.gift(1, 2, 5);
        Due.list(x, 7, 1, 2, -1);
        Due.list(x, 9, 1, 3, 4);
        Due.type(x, "p1+");
        x.sheet(2, 1, 4);
        return x;
    }

    private static void count() {
        ArmCounts x = rich();
        int[] want = {2, 2, 12, 3, 2, 3, 14, 1, 0};
        for (int what = 0; what < want.length; what++) {
            due.is("count(" + what + ")", x.count(what), want[what]);
        }
        due.is("-1", x.count(-1), -2);
        due.is("9", x.count(9), -2);
        x.lose(0);
        due.is("count(8) NULL", x.count(8), 1);
        x.sheet(0, 0, -4);
        due.is("count(8) SIZE", x.count(8), 5);
    }

    private static void digest() {
        int solutions = 0;
        for (int a : new int[] {1, 5, 6, 10, 11}) {
            solutions += (12 - a) * 12;
        }
        int[] parts = {
            2, 2, 12, 3, 2, 3, 14, 1,
            5, 2, 1, 0, 10, 20, 99, 20, 10,
            4, 2, 0, 1, 3, 4, 4, 3,
            solutions,
            0, 0, 0, 9, 0, 0, 0, 5, 0,
            3, 7, 1, 0, 0, -1,
            3, 9, 0, 0, 0, 0,
        };
        long h = 17;
        for (int part : parts) {
            h = 31 * h + part;
        }
        ArmCounts x = rich();
        due.is("digest", x.digest(), h);
        due.is("digest again", x.digest(), h);
        x.lose(0);
        due.is("a finding is not in it", x.digest(), h);
    }
}
