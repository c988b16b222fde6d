/** Promises 38 to 44. */
public final class TalesTest {
    private static final Due due = new Due("TalesTest");
    private static final int LOST = -1;

    public static void main(String[] args) {
        readings();
        lostTale();
        fits();
        type();
        fault();
        speech();
        due.end();
    }

    private static void readings() {
        ArmCounts x = new ArmCounts();
        Due.count(x, false, 1, 2);
        Due.count(x, false, 2, 1);
        due.is("sheet -1", x.readings(-1, 1), -2);
        due.is("sheet 4", x.readings(4, 1), -2);
        due.is("n 0", x.readings(0, 0), -2);
        due.is("n 31", x.readings(0, 31), -2);
        due.is("lost", x.readings(0, 1), -11);
        due.is("reading of a lost one", x.reading(0, 1, 0), -11);
        due.is("reading i -1 of a lost one", x.reading(0, 1, -1), -2);
        Due.sheet(x, 0, 2, 2, 7, LOST, 100);
        due.is("INDEX", x.readings(0, 5), -12);
        due.is("reading INDEX", x.reading(0, 5, 0), -12);
        due.is("count(8)", x.count(8), 2);
        due.is("one word", x.readings(0, 1), 20 * (50 + 49));
        due.is("START 2, STEP 1", x.reading(0, 1, 0), 1002);
        due.is("START 2, STEP 2", x.reading(0, 1, 1), 2002);
        due.is("START 3, STEP 1", x.reading(0, 1, 20), 1003);
        due.is("COUNT 1, START 1", x.reading(0, 1, 1000), 101001);
        due.is("the last", x.reading(0, 1, 1979), 120097);
        due.is("no more", x.reading(0, 1, 1980), -1);
        due.is("a word of none", x.readings(0, 2), 0);
        due.is("no reading", x.reading(0, 2, 0), -1);
        due.is("i -1", x.reading(0, 1, -1), -2);
        due.is("reading n 0", x.reading(0, 0, 0), -2);
        due.is("reading n 31", x.reading(0, 31, 0), -2);
        due.is("reading sheet 4", x.reading(4, 1, 0), -2);
    }

    private static void lostTale() {
        ArmCounts x = new ArmCounts();
        x.sheet(0, 2, 30);
        for (int i = 0; i < 30; i++) {
            x.put(0, 2, i, 100 + i);
        }
        due.is("without counts", x.readings(0, 30), 0);
        Due.count(x, true, 1, 2);
        int want = 0;
        for (int start = 1; start <= 99; start++) {
            for (int step = 1; step <= 20; step++) {
                want += start + 29 * step <= 400 ? 1 : 0;
            }
        }
        due.is("all that stay below 401", x.readings(0, 30), want);
        due.is("the last of them", x.reading(0, 30, want - 1), 10099);
    }

    private static void fits() {
        ArmCounts x = new ArmCounts();
        Due.count(x, true, 1, 2, 3);
        Due.sheet(x, 0, 1, 2, 1, LOST, 2, 3);
        due.is("4 6 8 10 no", x.fits(0, 4, 0, 4, 2), 0);
        due.is("4 10 16 22", x.fits(0, 4, 0, 4, 6), 1);
        due.is("4 10 16 22 28", x.fits(0, 5, 0, 4, 6), 1);
        due.is("3 first", x.fits(0, 1, 0, 3, 1), 0);
        Due.sheet(x, 1, 0, new int[30]);
        for (int i = 0; i < 30; i++) {
            x.put(1, 0, i, 100);
        }
        due.is("400", x.fits(1, 16, 0, 100 - 1, 20), 1);
        due.is("419", x.fits(1, 17, 0, 99, 20), 0);
        due.is("exactly 400", x.fits(1, 21, 0, 80, 16), 1);
        due.is("401 of a lost item", x.fits(1, 21, 0, 81, 16), 0);
        due.is("lost", x.fits(2, 1, 0, 1, 1), -11);
        due.is("INDEX", x.fits(0, 6, 0, 1, 1), -12);
        due.is("sheet", x.fits(4, 1, 0, 1, 1), -2);
        due.is("n 0", x.fits(0, 0, 0, 1, 1), -2);
        due.is("n 31", x.fits(0, 31, 0, 1, 1), -2);
        due.is("count 1", x.fits(0, 1, 1, 1, 1), -2);
        due.is("count -1", x.fits(0, 1, -1, 1, 1), -2);
        due.is("start 0", x.fits(0, 1, 0, 0, 1), -2);
        due.is("start 100", x.fits(0, 1, 0, 100, 1), -2);
        due.is("step 0", x.fits(0, 1, 0, 1, 0), -2);
        due.is("step 21", x.fits(0, 1, 0, 1, 21), -2);
        due.is("BAD ahead of NULL", x.fits(2, 1, 0, 1, 21), -2);
    }

    private static void type() {
        ArmCounts x = new ArmCounts();
        due.is("-1", x.type(-1), -2);
        due.is("256", x.type(256), -2);
        for (int i = 1; i <= 60; i++) {
            due.is("byte " + i, x.type(i % 2 == 0 ? 0 : 255), i);
        }
        due.is("FULL", x.type(0), -4);
        due.is("BAD ahead of FULL", x.type(256), -2);
        due.is("sixty", x.count(5), 60);
        due.is("hush", x.hush(), 60);
        due.is("hush again", x.hush(), 0);
        due.is("none", x.count(5), 0);
        due.is("first again", x.type(65), 1);
    }

    private static void faultOf(String text, int want) {
        ArmCounts x = new ArmCounts();
        Due.type(x, text);
        due.is("fault of " + text, x.fault(), want);
    }

    private static void fault() {
        String[] fine = {"p1", "p99", "p01", "m0p1", "m00p1", "m99p99", "p1+p2", "p1-m2p3+p4"};
        for (String text : fine) {
            faultOf(text, -1);
        }
        faultOf("", 0);
        faultOf("x", 0);
        faultOf("1", 0);
        faultOf("+p1", 0);
        faultOf("-", 0);
        faultOf("m", 1);
        faultOf("mp1", 1);
        faultOf("m1", 2);
        faultOf("m12", 3);
        faultOf("m123p1", 3);
        faultOf("m1m1p1", 2);
        faultOf("p", 1);
        faultOf("pp", 1);
        faultOf("p0", 1);
        faultOf("p00", 1);
        faultOf("p0+", 1);
        faultOf("p0x", 1);
        faultOf("p001", 1);
        faultOf("m5p0", 3);
        faultOf("p123", 3);
        faultOf("p1 ", 2);
        faultOf("p1p2", 2);
        faultOf("p1m2p2", 2);
        faultOf("p1+", 3);
        faultOf("p12-", 4);
        faultOf("p1++p2", 3);
        faultOf("p1+p0", 4);
        faultOf("P1", 0);
        faultOf("M1p1", 0);
        faultOf("p1" + (char) 0, 2);
        faultOf("p/", 1);
        faultOf("p:", 1);
        faultOf("p1+p2+p3+p4+p5+p6+p7+p8+p9+p1+p2+p3+p4+p5+p6+p7+p8+p9+p1+p2+", 60);
        faultOf("p1+p2+p3+p4+p5+p6+p7+p8+p9+p1+p2+p3+p4+p5+p6+p7+p8+p9+p1+p22", -1);
    }

    private static void speech() {
        ArmCounts x = new ArmCounts();
        due.is("no count", x.speech(0), -100000);
        Due.count(x, true, Due.row(21, 0));
        Due.count(x, false, 1, 2);
        due.is("empty", x.speech(0), -100001);
        Due.type(x, "m2p4-p3+m10p1");
        due.is("by 41", x.speech(0), 86 - 3 + 411);
        due.is("by 4", x.speech(1), 12 - 3 + 41);
        Due.type(x, "p5");
        due.is("5 by 41", x.speech(0), 5);
        due.is("5 by 4", x.speech(1), -100001);
        Due.type(x, "p5-p1");
        due.is("a first one above T", x.speech(1), -100001);
        Due.type(x, "p1-p4");
        due.is("below 0", x.speech(1), -3);
        Due.type(x, "p41-m99p41-m99p41");
        due.is("far below 0", x.speech(0), 41 - 8200);
        due.is("count 2", x.speech(2), -100000);
        due.is("count -1", x.speech(-1), -100000);
        Due.type(x, "p1-");
        due.is("a fault", x.speech(0), -100001);
        due.is("BAD ahead of it", x.speech(9), -100000);
        due.is("bytes stay", x.count(5), 3);
    }
}
