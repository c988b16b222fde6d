/** Promises 8 to 19. */
public final class MeaningsTest {
    private static final Due due = new Due("MeaningsTest");

    public static void main(String[] args) {
        meanings();
        meaning();
        mat();
        clues();
        full();
        solutions();
        sums();
        lesses();
        sure();
        quarrel();
        clueFollowsTheCount();
        due.end();
    }

    /** Two COUNTS: 1 2 3 2 1 with a NOSE; 1 5 5 1. */
    private static ArmCounts two() {
        ArmCounts x = new ArmCounts();
        Due.count(x, true, 1, 2, 3);
        Due.count(x, false, 1, 5);
        return x;
    }

    private static void meanings() {
        ArmCounts x = two();
        due.is("all of word 1", x.meanings(0, 1, -1, -1, 400), 160);
        due.is("right", x.meanings(0, 1, 0, -1, 400), 80);
        due.is("left", x.meanings(0, 1, 1, -1, 400), 80);
        due.is("nose hand of a side", x.meanings(0, 1, 2, -1, 400), 0);
        due.is("nose", x.meanings(0, 3, 2, -1, 400), 80);
        due.is("nose is on no side", x.meanings(0, 3, 0, -1, 400), 0);
        due.is("two men", x.meanings(0, 1, -1, 2, 400), 2);
        due.is("two men up to 14", x.meanings(0, 1, -1, 2, 14), 1);
        due.is("two men up to 10", x.meanings(0, 1, -1, 2, 10), 0);
        due.is("most 1", x.meanings(0, 1, -1, -1, 1), 1);
        due.is("word 0", x.meanings(0, 0, -1, -1, 400), 0);
        due.is("a word it has not", x.meanings(0, 99, -1, -1, 400), 0);
        due.is("count 1", x.meanings(1, 5, 1, 20, 400), 1);
        x.begins(0, 1);
        due.is("begun on the left", x.meanings(0, 1, 1, 0, 1), 1);
        due.is("count 2", x.meanings(2, 1, -1, -1, 400), -2);
        due.is("count -1", x.meanings(-1, 1, -1, -1, 400), -2);
        due.is("word -1", x.meanings(0, -1, -1, -1, 400), -2);
        due.is("word 100", x.meanings(0, 100, -1, -1, 400), -2);
        due.is("hand -2", x.meanings(0, 1, -2, -1, 400), -2);
        due.is("hand 3", x.meanings(0, 1, 3, -1, 400), -2);
        due.is("men -2", x.meanings(0, 1, -1, -2, 400), -2);
        due.is("men 21", x.meanings(0, 1, -1, 21, 400), -2);
        due.is("most 0", x.meanings(0, 1, -1, -1, 0), -2);
        due.is("most 401", x.meanings(0, 1, -1, -1, 401), -2);
    }

    private static void meaning() {
        ArmCounts x = two();
        int[] want = {1, 5, 6, 10, 11, 15};
        for (int i = 0; i < want.length; i++) {
            due.is("meaning " + i, x.meaning(0, 1, -1, -1, i), want[i]);
        }
        due.is("the last", x.meaning(0, 1, -1, -1, 159), 400);
        due.is("behind the last", x.meaning(0, 1, -1, -1, 160), -1);
        due.is("far behind", x.meaning(0, 1, -1, -1, Integer.MAX_VALUE), -1);
        due.is("left, 3 men", x.meaning(0, 2, 1, 3, 0), 19);
        due.is("no more", x.meaning(0, 2, 1, 3, 1), -1);
        due.is("i -1", x.meaning(0, 1, -1, -1, -1), -2);
        due.is("count 2", x.meaning(2, 1, -1, -1, 0), -2);
        due.is("word 100", x.meaning(0, 100, -1, -1, 0), -2);
        due.is("hand 3", x.meaning(0, 1, 3, -1, 0), -2);
        due.is("men 21", x.meaning(0, 1, -1, 21, 0), -2);
    }

    private static void mat() {
        ArmCounts x = new ArmCounts();
        due.is("30 at first", x.mat(40), 30);
        due.is("cubes of 40", x.solutions(), 64000);
        due.is("then", x.mat(1), 40);
        due.is("one solution", x.solutions(), 1);
        due.is("0", x.mat(0), -2);
        due.is("41", x.mat(41), -2);
        due.is("still 1", x.count(2), 1);
    }

    private static void clues() {
        ArmCounts x = two();
        due.is("unknown -1", x.clue(-1, 0, 1, -1, -1), -2);
        due.is("unknown 3", x.clue(3, 0, 1, -1, -1), -2);
        due.is("count 2", x.clue(0, 2, 1, -1, -1), -2);
        due.is("word 100", x.clue(0, 0, 100, -1, -1), -2);
        due.is("hand 3", x.clue(0, 0, 1, 3, -1), -2);
        due.is("hand -2", x.clue(0, 0, 1, -2, -1), -2);
        due.is("men 21", x.clue(0, 0, 1, -1, 21), -2);
        due.is("men -2", x.clue(0, 0, 1, -1, -2), -2);
        due.is("sum -1", x.sum(-1, 0, 0), -2);
        due.is("sum of 3", x.sum(0, 3, 0), -2);
        due.is("sum to 3", x.sum(0, 0, 3), -2);
        due.is("less itself", x.less(2, 2), -2);
        due.is("less -1", x.less(-1, 0), -2);
        due.is("less 3", x.less(0, 3), -2);
        due.is("mats of 3", x.mats(3, 1, 2), -2);
        due.is("mats of -1", x.mats(-1, 1, 2), -2);
        due.is("mats from 0", x.mats(0, 0, 2), -2);
        due.is("mats backward", x.mats(0, 3, 2), -2);
        due.is("mats to 41", x.mats(0, 3, 41), -2);
        due.is("none yet", x.count(1), 0);
        due.is("mats 1 to 1", x.mats(0, 1, 1), 1);
        due.is("by it", x.solutions(), 900);
        due.is("forget it", x.forget(), 1);
        due.is("a point", x.clue(0, 0, 1, -1, -1), 1);
        due.is("solutions by it", x.solutions(), 12 * 900);
        due.is("a point by the other", x.clue(0, 1, 1, 0, -1), 2);
        due.is("1 5 9 13 17 21 25 29 and those of 0", x.solutions(), 4 * 900);
        due.is("first", x.solution(0, 0), 1);
        due.is("second", x.solution(900, 0), 5);
        due.is("third", x.solution(1800, 0), 21);
        due.is("fourth", x.solution(2700, 0), 25);
        due.is("mats 40", x.mats(0, 20, 40), 3);
        due.is("less than by mats", x.solutions(), 2 * 900);
        due.is("how many", x.count(1), 3);
        due.is("forget", x.forget(), 3);
        due.is("none", x.count(1), 0);
        due.is("forget again", x.forget(), 0);
        due.is("all", x.solutions(), 27000);
    }

    private static void full() {
        ArmCounts x = two();
        for (int i = 1; i <= 8; i++) {
            due.is("clue " + i, x.mats(i % 3, i, 40), i);
        }
        due.is("mats full", x.mats(0, 1, 40), -4);
        due.is("sum full", x.sum(0, 1, 2), -4);
        due.is("less full", x.less(0, 1), -4);
        due.is("clue full", x.clue(0, 0, 1, -1, -1), -4);
        due.is("BAD ahead of FULL", x.less(1, 1), -2);
        due.is("BAD clue ahead of FULL", x.clue(0, 9, 1, -1, -1), -2);
        due.is("BAD sum ahead of FULL", x.sum(0, 1, 9), -2);
        due.is("BAD mats ahead of FULL", x.mats(0, 2, 1), -2);
        due.is("eight", x.count(1), 8);
        due.is("as told", x.solutions(), 25 * 24 * 23);
    }

    private static void solutions() {
        ArmCounts x = two();
        x.mat(4);
        x.less(0, 2);
        int i = 0;
        for (int a = 1; a <= 4; a++) {
            for (int b = 1; b <= 4; b++) {
                for (int c = a + 1; c <= 4; c++) {
                    due.is("0 in " + i, x.solution(i, 0), a);
                    due.is("1 in " + i, x.solution(i, 1), b);
                    due.is("2 in " + i, x.solution(i, 2), c);
                    i++;
                }
            }
        }
        due.is("so many", x.solutions(), i);
        due.is("no more", x.solution(i, 0), -1);
        due.is("far behind", x.solution(Integer.MAX_VALUE, 2), -1);
        due.is("i -1", x.solution(-1, 0), -2);
        due.is("u 3", x.solution(0, 3), -2);
        due.is("u -1", x.solution(0, -1), -2);
        due.is("u 3 behind the last", x.solution(99, 3), -2);
    }

    /** All SUMS, with some of them the same, against three plain loops. */
    private static void sums() {
        for (int i = 0; i < 3; i++) {
            for (int j = 0; j < 3; j++) {
                for (int k = 0; k < 3; k++) {
                    ArmCounts x = new ArmCounts();
                    x.mat(9);
                    due.is("sum", x.sum(i, j, k), 1);
                    int want = 0;
                    int[] n = new int[3];
                    for (n[0] = 1; n[0] <= 9; n[0]++) {
                        for (n[1] = 1; n[1] <= 9; n[1]++) {
                            for (n[2] = 1; n[2] <= 9; n[2]++) {
                                want += n[i] + n[j] == n[k] ? 1 : 0;
                            }
                        }
                    }
                    due.is("sum(" + i + ", " + j + ", " + k + ")", x.solutions(), want);
                }
            }
        }
    }

    private static void lesses() {
        for (int i = 0; i < 3; i++) {
            for (int j = 0; j < 3; j++) {
                ArmCounts x = new ArmCounts();
                x.mat(40);
                due.is("less", x.less(i, j), i == j ? -2 : 1);
                due.is("less(" + i + ", " + j + ")", x.solutions(), i == j ? 64000 : 40 * 39 / 2 * 40);
                if (i != j) {
                    due.is("the lesser in the first", x.solution(0, i), 1);
                    due.is("the other in the first", x.solution(0, j), 2);
                }
            }
        }
    }

    private static void sure() {
        ArmCounts x = new ArmCounts();
        due.is("several", x.sure(0), -1);
        due.is("u 3", x.sure(3), -2);
        due.is("u -1", x.sure(-1), -2);
        x.sum(0, 0, 1);
        x.sum(1, 1, 2);
        x.mats(2, 29, 30);
        due.is("no number by four", x.sure(0), -3);
        due.is("nor of 2", x.sure(2), -3);
        due.is("BAD ahead of NOT", x.sure(3), -2);
        x.forget();
        x.sum(0, 0, 1);
        x.mats(0, 7, 7);
        due.is("0 is sure", x.sure(0), 7);
        due.is("1 is sure", x.sure(1), 14);
        due.is("2 is not", x.sure(2), -1);
        x.mat(40);
        x.mats(2, 40, 40);
        due.is("2 is sure", x.sure(2), 40);
    }

    private static void quarrel() {
        ArmCounts x = two();
        due.is("none without clues", x.quarrel(), 0);
        x.less(0, 1);
        x.less(1, 2);
        due.is("none", x.quarrel(), 0);
        x.less(2, 0);
        due.is("three round", x.quarrel(), 7);
        x.mats(0, 5, 9);
        x.mats(0, 10, 12);
        due.is("fewer", x.quarrel(), 24);
        x.less(1, 0);
        due.is("the least as bits", x.quarrel(), 24);
        x.sum(1, 1, 1);
        due.is("one alone", x.quarrel(), 64);
        x.forget();
        x.less(1, 0);
        x.mats(0, 1, 40);
        x.less(0, 1);
        x.mats(1, 5, 5);
        x.mats(1, 6, 6);
        due.is("of like ones the least", x.quarrel(), 5);
        x.forget();
        x.mats(0, 31, 40);
        due.is("above the mat", x.quarrel(), 1);
        x.mats(1, 1, 2);
        x.less(1, 2);
        due.is("the first alone", x.quarrel(), 1);
        x.mat(31);
        due.is("a larger mat", x.quarrel(), 0);
    }

    private static void clueFollowsTheCount() {
        ArmCounts x = two();
        x.clue(0, 0, 1, 0, 0);
        due.is("on the right", x.sure(0), 1);
        x.begins(0, 1);
        due.is("begun on the left", x.sure(0), 5);
    }
}
