/** Sentences of the document about POINTS, UNKNOWNS and CLUES that name a boundary, one by one (promises 8 to 19). */
public final class MeaningEdgesTest {
    private static final Due due = new Due("MeaningEdgesTest");
    private static final int NONE = ArmCounts.NONE, BAD = ArmCounts.BAD, NOT = ArmCounts.NOT, FULL = ArmCounts.FULL;

    public static void main(String[] args) {
        points();
        most();
        asFarAsTold();
        menOfPoints();
        which();
        mat();
        eight();
        pointOfUnknown();
        sum();
        less();
        mats();
        forget();
        order();
        solution();
        sure();
        quarrel();
        quarrelOfAll();
        due.end();
    }

    /** COUNT 0: one WORD, 7 7; COUNT 1: 0 99 with the NOSE 50; COUNT 2: 10 to 29 and the NOSE 30, 41 PLACES. */
    private static ArmCounts three() {
        ArmCounts x = new ArmCounts();
        Due.count(x, false, 7);
        Due.count(x, true, 0, 99, 50);
        Due.count(x, true, Due.row(21, 10));
        return x;
    }

    private static void points() {
        due.says("A POINT is at a WORD, with a HAND (0, 1, 2; NONE: not seen) and MEN (0 to 20; NONE: not told).");
        ArmCounts x = three();
        int[][] wrong = {{-1, 0, 0}, {100, 0, 0}, {0, -2, 0}, {0, 3, 0}, {0, 0, -2}, {0, 0, 21}};
        for (int[] w : wrong) {
            due.is("meanings", x.meanings(1, w[0], w[1], w[2], 400), BAD);
            due.is("meaning", x.meaning(1, w[0], w[1], w[2], 0), BAD);
            due.is("clue", x.clue(0, 1, w[0], w[1], w[2]), BAD);
        }
        int[][] fine = {{0, 0, 0, 1}, {99, 0, 0, 2}, {0, NONE, 0, 1}, {50, 2, 0, 3}, {0, 1, 0, 5}, {0, 0, NONE, 1}, {0, 0, 20, 101}};
        for (int[] w : fine) {
            due.holds("meanings", x.meanings(1, w[0], w[1], w[2], 400) >= 1);
            due.is("meaning", x.meaning(1, w[0], w[1], w[2], 0), w[3]);
            due.is("clue", x.clue(0, 1, w[0], w[1], w[2]), 1);
            x.forget();
        }
    }

    private static void most() {
        due.says("Its MEANINGS by a COUNT, up to a MOST (1 to 400): all N from 1 on whose PLACE has that WORD");
        ArmCounts x = three();
        due.is("0", x.meanings(0, 7, NONE, NONE, 0), BAD);
        due.is("1", x.meanings(0, 7, NONE, NONE, 1), 1);
        due.is("400", x.meanings(0, 7, NONE, NONE, 400), 400);
        due.is("401", x.meanings(0, 7, NONE, NONE, 401), BAD);
        for (int most = 1; most <= 41; most++) {
            due.is("the NOSE up to " + most, x.meanings(2, 30, NONE, NONE, most), most < 21 ? 0 : 1);
            due.is("the first WORD up to " + most, x.meanings(2, 10, NONE, NONE, most), most < 41 ? 1 : 2);
            due.is("the second up to " + most, x.meanings(2, 11, NONE, NONE, most), most < 2 ? 0 : most < 40 ? 1 : 2);
        }
        due.is("up to the last", x.meanings(2, 30, NONE, NONE, 390), 10);
        due.is("up to one less", x.meanings(2, 30, NONE, NONE, 389), 9);
        due.is("a WORD of none", x.meanings(2, 31, NONE, NONE, 400), 0);
    }

    private static void asFarAsTold() {
        due.says("and HAND and MEN as far as they are told.");
        ArmCounts x = three();
        int[] hands = {200, 200, 0};
        for (int hand = 0; hand < 3; hand++) {
            due.is("HAND " + hand, x.meanings(0, 7, hand, NONE, 400), hands[hand]);
        }
        due.is("the HAND not seen", x.meanings(0, 7, NONE, NONE, 400), 400);
        due.is("the NOSE not seen", x.meanings(1, 50, NONE, NONE, 400), 80);
        due.is("the NOSE", x.meanings(1, 50, 2, NONE, 400), 80);
        due.is("right of a NOSE", x.meanings(1, 50, 0, NONE, 400), 0);
        due.is("left of a NOSE", x.meanings(1, 50, 1, NONE, 400), 0);
        x.begins(0, 1);
        due.is("begun on the left: 1", x.meanings(0, 7, 1, NONE, 1), 1);
        due.is("begun on the left: not 1", x.meanings(0, 7, 0, NONE, 1), 0);
        due.is("begun on the left: 2", x.meanings(0, 7, 0, NONE, 2), 1);
    }

    private static void menOfPoints() {
        due.says("MEN (0 to 20; NONE: not told)");
        ArmCounts x = three();
        for (int men = 0; men <= 20; men++) {
            due.is(men + " MEN by 2", x.meanings(0, 7, NONE, men, 400), 2);
            due.is("right", x.meaning(0, 7, 0, men, 0), 2 * men + 1);
            due.is("left", x.meaning(0, 7, 1, men, 0), 2 * men + 2);
            due.is("no more", x.meaning(0, 7, NONE, men, 2), NONE);
        }
        due.is("20 MEN up to 40", x.meanings(0, 7, NONE, 20, 40), 0);
        due.is("20 MEN up to 41", x.meanings(0, 7, NONE, 20, 41), 1);
        due.is("9 MEN by 41: 370", x.meanings(2, 10, NONE, 9, 400), 1);
        due.is("9 MEN by 41: 400 is PLACE 31", x.meanings(2, 20, 1, 9, 400), 1);
        due.is("9 MEN by 41: PLACE 32 is above", x.meanings(2, 19, 1, 9, 400), 0);
        due.is("10 MEN by 41", x.meanings(2, 10, NONE, 10, 400), 0);
        due.is("20 MEN by 41", x.meaning(2, 10, NONE, 20, 0), NONE);
    }

    private static void which() {
        due.says("The i-th MEANING up to 400; NONE. BAD: also i below 0.");
        ArmCounts x = three();
        due.is("i -1", x.meaning(0, 7, NONE, NONE, -1), BAD);
        due.is("i 0", x.meaning(0, 7, NONE, NONE, 0), 1);
        due.is("the last", x.meaning(0, 7, NONE, NONE, 399), 400);
        due.is("one more", x.meaning(0, 7, NONE, NONE, 400), NONE);
        due.is("far more", x.meaning(0, 7, NONE, NONE, World.MOST), NONE);
        due.is("a WORD of none", x.meaning(0, 8, NONE, NONE, 0), NONE);
        due.is("a WORD of none, i -1", x.meaning(0, 8, NONE, NONE, -1), BAD);
        due.is("400 by 41", x.meaning(2, 20, 1, NONE, 9), 400);
        due.is("above 400 by 41", x.meaning(2, 20, 1, NONE, 10), NONE);
    }

    private static void mat() {
        due.says("UNKNOWNS 0 .. 2 are numbers from 1 to MAT (told, 1 to 40; 30 at first).");
        ArmCounts x = new ArmCounts();
        due.is("at first", x.count(2), 30);
        due.is("30 of each", x.solutions(), 27000);
        due.is("0", x.mat(0), BAD);
        due.is("41", x.mat(41), BAD);
        due.is("30 still", x.count(2), 30);
        for (int most : new int[] {1, 2, 39, 40}) {
            x.mat(most);
            int all = most * most * most;
            due.is("so many", x.solutions(), all);
            for (int u = 0; u < 3; u++) {
                due.is("from 1", x.solution(0, u), 1);
                due.is("to MAT", x.solution(all - 1, u), most);
                due.is("no more", x.solution(all, u), NONE);
                due.is("sure of 1 alone", x.sure(u), most == 1 ? 1 : NONE);
            }
        }
        due.says("MAT: what it was. BAD.");
        due.is("it was 40", x.mat(1), 40);
        due.is("it was 1", x.mat(1), 1);
        due.is("it was 1 still", x.mat(30), 1);
    }

    private static void eight() {
        due.says("CLUES, up to 8, of four KINDS:");
        for (int kind = 0; kind < 4; kind++) {
            ArmCounts x = three();
            for (int c = 1; c <= 8; c++) {
                due.is("CLUE " + c + " of KIND " + kind, add(x, kind), c);
                due.is("so many", x.count(1), c);
            }
            for (int one = 0; one < 4; one++) {
                due.is("one more of KIND " + one, add(x, one), FULL);
            }
            due.is("eight", x.count(1), 8);
            due.is("forget", x.forget(), 8);
            due.is("the first again", add(x, kind), 1);
        }
    }

    private static int add(ArmCounts x, int kind) {
        switch (kind) {
            case 0: return x.clue(2, 0, 7, NONE, NONE);
            case 1: return x.sum(0, 1, 2);
            case 2: return x.less(0, 2);
            default: return x.mats(2, 1, 40);
        }
    }

    private static void pointOfUnknown() {
        due.says("0 a POINT by a COUNT, of an UNKNOWN (it is one of the MEANINGS);");
        for (int u = 0; u < 3; u++) {
            ArmCounts x = three();
            x.clue(u, 2, 30, NONE, NONE);
            x.mat(20);
            due.is("21 is above the MAT", x.solutions(), 0);
            due.is("NOT", x.sure(u), NOT);
            x.mat(21);
            due.is("21 is the MAT", x.solutions(), 441);
            due.is("sure", x.sure(u), 21);
            due.is("of another", x.sure((u + 1) % 3), NONE);
            x.mat(40);
            due.is("it alone", x.sure(u), 21);
            x.forget();
            x.clue(u, 2, 10, NONE, NONE);
            due.is("1, since 41 is above every MAT", x.sure(u), 1);
            x.clue(u, 2, 10, 1, NONE);
            due.is("on the left there is none", x.solutions(), 0);
            x.forget();
            x.clue(u, 0, 7, 1, 19);
            due.is("the 40th", x.sure(u), 40);
            x.mat(39);
            due.is("above the MAT", x.sure(u), NOT);
            x.forget();
            x.clue(u, 0, 8, NONE, NONE);
            due.is("a WORD of none", x.solutions(), 0);
        }
    }

    private static void sum() {
        due.says("1 SUM: UNKNOWN i and UNKNOWN j are UNKNOWN k together (any of them may be the same);");
        int[][] rows = {{0, 1, 2}, {1, 0, 2}, {0, 2, 1}, {2, 0, 1}, {1, 2, 0}, {2, 1, 0}};
        for (int[] r : rows) {
            ArmCounts x = new ArmCounts();
            due.is("a CLUE", x.sum(r[0], r[1], r[2]), 1);
            x.mat(1);
            due.is("1 and 1 are above 1", x.solutions(), 0);
            x.mat(2);
            due.is("1 and 1 are 2", x.solutions(), 1);
            due.is("2", x.sure(r[2]), 2);
            x.mat(40);
            due.is("all", x.solutions(), 39 * 40 / 2);
            for (int u = 0; u < 3; u++) {
                due.is("none is sure", x.sure(u), NONE);
            }
            x.mats(r[0], 39, 39);
            due.is("39 and 1", x.sure(r[2]), 40);
            x.mats(r[1], 2, 40);
            due.is("41 is above", x.solutions(), 0);
        }
        for (int i = 0; i < 3; i++) {
            for (int k = 0; k < 3; k++) {
                ArmCounts x = new ArmCounts();
                x.mat(7);
                x.sum(i, i, k);
                due.is("twice " + i + " is " + k, x.solutions(), i == k ? 0 : 3 * 7);
                due.is("the first", x.solution(0, k), i == k ? NONE : 2);
                x.forget();
                x.sum(i, k, k);
                due.is("none adds nothing", x.solutions(), 0);
                x.forget();
                x.sum(k, i, k);
                due.is("nor ahead", x.solutions(), 0);
            }
        }
    }

    private static void less() {
        due.says("2 LESS: UNKNOWN i is less than UNKNOWN j;");
        for (int i = 0; i < 3; i++) {
            for (int j = 0; j < 3; j++) {
                ArmCounts x = new ArmCounts();
                due.is("less", x.less(i, j), i == j ? BAD : 1);
                if (i != j) {
                    x.mat(1);
                    due.is("1 is not less than 1", x.solutions(), 0);
                    x.mat(2);
                    due.is("1 is less than 2", x.solutions(), 2);
                    x.mat(40);
                    x.mats(j, 1, 6);
                    x.mats(i, 5, 40);
                    due.is("5 is less than 6", x.sure(i), 5);
                    due.is("6", x.sure(j), 6);
                    x.mats(i, 6, 6);
                    due.is("6 is not less than 6", x.solutions(), 0);
                    x.forget();
                    x.less(i, j);
                    x.mats(i, 39, 40);
                    due.is("39", x.sure(i), 39);
                    due.is("is less than 40", x.sure(j), 40);
                }
            }
        }
    }

    private static void mats() {
        due.says("3 MATS: UNKNOWN i is at least n and at most m.");
        for (int u = 0; u < 3; u++) {
            ArmCounts x = new ArmCounts();
            x.mat(40);
            x.mats(u, 4, 7);
            int each = 1600;
            due.is("four", x.solutions(), 4 * each);
            due.is("the first", x.solution(0, u), 4);
            due.is("the last", x.solution(4 * each - 1, u), 7);
            x.mats(u, 7, 40);
            due.is("both", x.sure(u), 7);
            x.mats(u, 8, 40);
            due.is("none", x.sure(u), NOT);
        }
        due.says("A CLUE more: MATS (n 1 to m, m to 40). BAD; FULL.");
        ArmCounts x = new ArmCounts();
        due.is("0 to 0", x.mats(0, 0, 0), BAD);
        due.is("0 to 1", x.mats(0, 0, 1), BAD);
        due.is("2 to 1", x.mats(0, 2, 1), BAD);
        due.is("1 to 41", x.mats(0, 1, 41), BAD);
        due.is("41 to 41", x.mats(0, 41, 41), BAD);
        due.is("1 to 1", x.mats(0, 1, 1), 1);
        due.is("1", x.sure(0), 1);
        x.forget();
        due.is("40 to 40", x.mats(0, 40, 40), 1);
        due.is("above the MAT", x.solutions(), 0);
        x.mat(40);
        due.is("on the MAT", x.sure(0), 40);
    }

    private static void forget() {
        due.says("No CLUES: how many there were.");
        ArmCounts x = three();
        due.is("none", x.forget(), 0);
        x.less(0, 1);
        x.less(1, 0);
        due.is("no SOLUTION", x.solutions(), 0);
        due.is("two", x.forget(), 2);
        due.is("none then", x.count(1), 0);
        due.is("none again", x.forget(), 0);
        due.is("all SOLUTIONS", x.solutions(), 27000);
        due.is("no quarrel", x.quarrel(), 0);
    }

    private static void order() {
        due.says("How many SOLUTIONS.");
        int[] cubes = {1, 8, 27, 64};
        for (int most = 1; most <= 4; most++) {
            ArmCounts x = new ArmCounts();
            x.mat(most);
            due.is("without CLUES", x.solutions(), cubes[most - 1]);
            x.mats(0, 4, 4);
            due.is("with one", x.solutions(), most < 4 ? 0 : 16);
        }
        due.says("SOLUTIONS are all three numbers by which all CLUES hold, in order of UNKNOWN 0, then 1, then 2.");
        ArmCounts x = new ArmCounts();
        x.mat(3);
        for (int i = 0; i < 27; i++) {
            due.is("UNKNOWN 0 of " + i, x.solution(i, 0), 1 + i / 9);
            due.is("UNKNOWN 1 of " + i, x.solution(i, 1), 1 + i / 3 % 3);
            due.is("UNKNOWN 2 of " + i, x.solution(i, 2), 1 + i % 3);
        }
        x.sum(1, 2, 0);
        int[][] want = {{2, 1, 1}, {3, 1, 2}, {3, 2, 1}};
        for (int i = 0; i < 3; i++) {
            for (int u = 0; u < 3; u++) {
                due.is("UNKNOWN " + u + " of " + i, x.solution(i, u), want[i][u]);
            }
        }
        due.is("three", x.solutions(), 3);
    }

    private static void solution() {
        due.says("UNKNOWN u in SOLUTION i; NONE: there is no such one. BAD: i below 0, u 0 to 2.");
        ArmCounts x = new ArmCounts();
        x.mats(0, 9, 9);
        x.mats(1, 8, 8);
        x.mats(2, 7, 7);
        int[] want = {9, 8, 7};
        for (int u = 0; u < 3; u++) {
            due.is("the one", x.solution(0, u), want[u]);
            due.is("no other", x.solution(1, u), NONE);
            due.is("none far behind", x.solution(World.MOST, u), NONE);
            due.is("none below", x.solution(-1, u), BAD);
        }
        x.mats(2, 8, 8);
        due.is("no SOLUTION", x.solution(0, 0), NONE);
        due.is("no SOLUTION and i below 0", x.solution(-1, 0), BAD);
        due.is("no SOLUTION and no such UNKNOWN", x.solution(0, 3), BAD);
    }

    private static void sure() {
        due.says("The number of an UNKNOWN, if it is the same in all SOLUTIONS; NONE: there are several; NOT: there is no SOLUTION. BAD.");
        ArmCounts x = new ArmCounts();
        x.mats(0, 9, 9);
        x.mats(1, 8, 9);
        due.is("the same in 60 SOLUTIONS", x.sure(0), 9);
        due.is("one of two", x.sure(1), NONE);
        due.is("one of 30", x.sure(2), NONE);
        x.less(1, 0);
        due.is("one of one", x.sure(1), 8);
        x.less(0, 1);
        for (int u = 0; u < 3; u++) {
            due.is("there is none", x.sure(u), NOT);
        }
        due.is("no such UNKNOWN", x.sure(3), BAD);
        due.is("nor below", x.sure(-1), BAD);
    }

    private static void quarrel() {
        due.says("The least set of CLUES (fewest, of like ones the least as bits) that has no SOLUTION; 0: all together have.");
        ArmCounts x = new ArmCounts();
        due.is("without CLUES", x.quarrel(), 0);
        for (int c = 0; c < 7; c++) {
            x.mats(c % 3, 1 + c, 30);
            due.is("all together have", x.quarrel(), 0);
        }
        x.mats(0, 31, 40);
        due.is("the last alone", x.quarrel(), 128);
        x.mat(31);
        due.is("not on a larger MAT", x.quarrel(), 129);
        x.mat(40);
        due.is("its first ones are below 31 all", x.quarrel(), 129);
        x.forget();
        x.sum(0, 0, 0);
        x.sum(1, 1, 1);
        due.is("of like ones the least", x.quarrel(), 1);
        x.forget();
        x.mats(0, 1, 5);
        x.mats(1, 9, 9);
        x.less(1, 0);
        x.mats(1, 5, 10);
        x.mats(0, 6, 9);
        due.is("two ahead of three", x.quarrel(), 1 + 16);
        x.forget();
        x.mats(0, 1, 1);
        x.mats(1, 1, 1);
        x.mats(0, 2, 2);
        x.mats(1, 2, 2);
        due.is("5 ahead of 10", x.quarrel(), 5);
        x.forget();
        x.mats(1, 1, 1);
        x.mats(0, 2, 2);
        x.mats(0, 1, 1);
        x.mats(1, 2, 2);
        due.is("6 ahead of 9", x.quarrel(), 6);
    }

    /** Eight CLUES of which each seven have a SOLUTION: by all, 0 is 18 or 25, 1 is 30, and 2 is 30 at most. */
    private static void quarrelOfAll() {
        for (int without = -1; without < 8; without++) {
            ArmCounts x = new ArmCounts();
            Due.count(x, false, 1, 2, 3);
            Due.count(x, true, 1, 2, 3, 4);
            Due.count(x, true, 1, 2, 3, 4, 5);
            x.mat(39);
            for (int c = 0; c < 8; c++) {
                if (c != without) {
                    oneOfEight(x, c);
                }
            }
            due.is("without " + without, x.quarrel(), without < 0 ? 255 : 0);
            due.is("SOLUTIONS without " + without, x.solutions() > 0 ? 1 : 0, without < 0 ? 0 : 1);
        }
    }

    private static void oneOfEight(ArmCounts x, int c) {
        switch (c) {
            case 0: x.less(1, 2); break;
            case 1: x.clue(1, 1, 2, NONE, NONE); break;
            case 2: x.clue(2, 1, 2, NONE, NONE); break;
            case 3: x.mats(2, 18, 31); break;
            case 4: x.less(0, 1); break;
            case 5: x.clue(0, 1, 4, NONE, NONE); break;
            case 6: x.clue(1, 2, 3, NONE, NONE); break;
            default: x.clue(0, 0, 1, NONE, NONE);
        }
    }
}
