/** Sentences of the document about trade that name a boundary, one by one (promises 20 to 28). */
public final class TradeEdgesTest {
    private static final Due due = new Due("TradeEdgesTest");
    private static final int NONE = ArmCounts.NONE, BAD = ArmCounts.BAD, NOT = ArmCounts.NOT, FULL = ArmCounts.FULL;

    public static void main(String[] args) {
        heard();
        heardUpTo400();
        clear();
        trap();
        eightAtMost();
        gifts();
        above400();
        owed();
        told();
        closedRound();
        leastSum();
        shortestFirst();
        leastPersonFirst();
        tillNone();
        worth();
        allThatIsOwed();
        due.end();
    }

    private static void heard() {
        due.says("HEARD: N said by COUNT a, heard by COUNT b: said are the WORD and HAND of its PLACE, and MEN;");
        ArmCounts x = new ArmCounts();
        Due.count(x, true, 1, 2, 3);
        Due.count(x, true, 2, 3, 1);
        Due.count(x, false, 3, 2);
        due.is("the WORD on the same HAND", x.heard(0, 1, 2), 1);
        due.is("the WORD on the other HAND", x.heard(0, 1, 4), 5);
        due.is("the MEN stay", x.heard(0, 1, 399), 400);
        due.says("NONE: b has none such.");
        due.is("a WORD that is the NOSE of b", x.heard(0, 1, 1), NONE);
        due.is("a NOSE that is on a side of b", x.heard(0, 1, 3), NONE);
        due.is("a NOSE, where b has none", x.heard(0, 2, 3), NONE);
        due.is("a WORD that b has not", x.heard(0, 2, 1), NONE);
        due.is("itself: 1", x.heard(0, 0, 1), 1);
        due.is("itself: 400", x.heard(0, 0, 400), 400);
        x.begins(1, 1);
        due.is("b begins on the left", x.heard(0, 1, 2), 5);
        x.begins(0, 1);
        due.is("and so does a", x.heard(0, 1, 2), 1);
        due.is("N 0", x.heard(0, 1, 0), BAD);
        due.is("N 401", x.heard(0, 1, 401), BAD);
    }

    private static void heardUpTo400() {
        due.says("heard is the least number up to 400 that has these in b;");
        ArmCounts x = new ArmCounts();
        Due.count(x, false, 1);
        Due.count(x, false, 1, 2);
        due.is("99 MEN and PLACE 4", x.heard(0, 1, 200), 400);
        due.is("100 MEN and PLACE 1: 401", x.heard(0, 1, 201), NONE);
        due.is("99 MEN and PLACE 1", x.heard(0, 1, 199), 397);
        due.is("199 MEN", x.heard(0, 1, 400), NONE);
        due.is("and back", x.heard(1, 0, 400), 200);
        Due.count(x, true, Due.row(21, 1));
        due.is("9 MEN by 41", x.heard(0, 2, 19), 370);
        due.is("9 MEN by 41, PLACE 41", x.heard(0, 2, 20), NONE);
        due.is("8 MEN by 41, PLACE 41", x.heard(0, 2, 18), 369);
        due.is("10 MEN by 41", x.heard(0, 2, 21), NONE);
    }

    private static void clear() {
        due.says("CLEAR are numbers N from 1 to a MOST that are heard as they are.");
        ArmCounts x = new ArmCounts();
        Due.count(x, true, 1, 2, 3);
        Due.count(x, true, 1, 4, 3);
        Due.count(x, false, 7, 8);
        due.is("most 0", x.clear(0, 1, 0), BAD);
        due.is("most 401", x.clear(0, 1, 401), BAD);
        int[] want = {1, 1, 2, 2, 3, 4, 4, 5, 5, 6};
        for (int most = 1; most <= want.length; most++) {
            due.is("up to " + most, x.clear(0, 1, most), want[most - 1]);
        }
        due.is("all but two of five", x.clear(0, 1, 400), 240);
        due.is("all, by itself", x.clear(0, 0, 400), 400);
        due.is("1, by itself", x.clear(0, 0, 1), 1);
        due.is("none", x.clear(0, 2, 400), 0);
        x.begins(1, 1);
        due.is("the NOSE alone", x.clear(0, 1, 400), 80);
    }

    private static void trap() {
        due.says("The first number (1 to 400) that is heard as another one; NONE. BAD.");
        ArmCounts x = new ArmCounts();
        Due.count(x, true, Due.row(21, 10));
        int[] words = Due.row(20, 50);
        words[0] = 10;
        Due.count(x, false, words);
        due.is("the last of 41, heard as 40", x.trap(0, 1), 41);
        due.is("heard as it is", x.heard(0, 1, 1), 1);
        due.is("heard as 40", x.heard(0, 1, 41), 40);
        due.is("the last of 40, heard as 41", x.trap(1, 0), 40);
        x.begins(0, 1);
        due.is("1, heard as 41", x.trap(1, 0), 1);
        due.is("itself", x.trap(0, 0), NONE);
        Due.count(x, false, 3);
        due.is("one that is not heard is no trap", x.trap(2, 0), NONE);
        Due.count(x, true, 3, 4);
        Due.count(x, true, 3, 5);
        due.is("some heard as they are, the others not", x.trap(3, 4), NONE);
        due.is("without COUNT 5", x.trap(4, 5), BAD);
    }

    private static void eightAtMost() {
        due.says("PERSONS 0 .. 7 (8 at most) have a COUNT each.");
        ArmCounts x = new ArmCounts();
        due.is("without COUNTS", x.person(0), BAD);
        Due.count(x, false, 1);
        Due.count(x, false, 1, 2);
        for (int p = 0; p < 8; p++) {
            due.is("not there yet", x.worth(p), -100000);
            due.is("PERSON", x.person(p % 2), p);
            due.is("there", x.worth(p), 0);
            due.is("so many", x.count(3), p + 1);
        }
        due.is("one more", x.person(0), FULL);
        due.is("eight", x.count(3), 8);
        due.is("no PERSON 8", x.worth(8), -100000);
        for (int p = 0; p < 7; p++) {
            x.gift(p, 7, 3);
            x.gift(7, p, 6);
            due.is("told by the COUNT of 7", x.told(p, 7), 3);
            x.gift(p, 7, 6);
            due.is("told by the COUNT of " + p, x.told(7, p), p % 2 == 0 ? 101 : 3);
        }
    }

    /** PERSONS by a COUNT of 4 PLACES. */
    private static ArmCounts people(int n) {
        ArmCounts x = new ArmCounts();
        Due.count(x, false, 1, 2);
        for (int p = 0; p < n; p++) {
            x.person(0);
        }
        return x;
    }

    private static void gifts() {
        due.says("A GIFT of n (1 to 400) from a to b: OWED by b to a then. BAD: also itself;");
        ArmCounts x = people(2);
        due.is("0", x.gift(0, 1, 0), BAD);
        due.is("401", x.gift(0, 1, 401), BAD);
        due.is("itself", x.gift(0, 0, 1), BAD);
        due.is("itself too", x.gift(1, 1, 400), BAD);
        due.is("no PERSON 2", x.gift(0, 2, 1), BAD);
        due.is("nothing is owed", x.count(6), 0);
        due.says("A GIFT of n from one to another: so much more is owed by that one to the first.");
        due.is("1", x.gift(0, 1, 1), 1);
        due.is("1 more", x.gift(0, 1, 1), 2);
        due.is("it is owed by 1", x.owed(1, 0), 2);
        due.is("not by 0", x.owed(0, 1), 0);
        due.is("back", x.gift(1, 0, 2), 0);
        due.is("400", x.gift(0, 1, 400), 400);
        due.is("400 back", x.gift(1, 0, 400), 0);
        due.is("400 the other way", x.gift(1, 0, 400), 400);
        due.is("400 back again", x.gift(0, 1, 400), 0);
    }

    private static void above400() {
        due.says("NOT: it would be above 400.");
        ArmCounts x = people(3);
        due.is("399", x.gift(0, 1, 399), 399);
        due.is("401 it would be", x.gift(0, 1, 2), NOT);
        due.is("399 still", x.owed(1, 0), 399);
        due.is("400", x.gift(0, 1, 1), 400);
        due.is("401 again", x.gift(0, 1, 1), NOT);
        due.is("800", x.gift(0, 1, 400), NOT);
        due.is("400 still", x.owed(1, 0), 400);
        due.is("by others it is not hindered", x.gift(0, 2, 400), 400);
        due.is("nor to it", x.gift(2, 1, 400), 400);
        due.is("the other way", x.gift(1, 0, 1), 0);
        due.is("400 again", x.gift(0, 1, 1), 400);
        x.gift(1, 0, 400);
        x.gift(1, 0, 399);
        due.is("from 399 owed to 1 owing", x.gift(0, 1, 400), 1);
        due.is("and to 400 owed", x.gift(1, 0, 400), 399);
        due.is("above, the other way", x.gift(1, 0, 2), NOT);
    }

    private static void owed() {
        due.says("OWED by a to b is what is left of both ways (0, if it is b that owes).");
        ArmCounts x = people(2);
        due.is("nothing yet", x.owed(0, 1), 0);
        x.gift(0, 1, 5);
        x.gift(1, 0, 4);
        due.is("one is left", x.owed(1, 0), 1);
        due.is("it is b that owes", x.owed(0, 1), 0);
        x.gift(1, 0, 1);
        due.is("even", x.owed(1, 0), 0);
        due.is("both ways", x.owed(0, 1), 0);
        x.gift(1, 0, 1);
        due.is("one the other way", x.owed(0, 1), 1);
        due.is("b owes now", x.owed(1, 0), 0);
        due.says("OWED by a to b. BAD: also itself.");
        due.is("itself", x.owed(0, 0), BAD);
        due.is("no PERSON 2", x.owed(2, 0), BAD);
    }

    private static void told() {
        due.says("TOLD is a debt by the COUNT of who it is owed to: 100 times MEN and PLACE.");
        ArmCounts x = new ArmCounts();
        Due.count(x, false, 1);
        Due.count(x, true, Due.row(21, 10));
        x.person(0);
        x.person(1);
        due.says("OWED by a to b, TOLD (0: nothing). BAD: also itself.");
        due.is("nothing", x.told(0, 1), 0);
        int[][] byTwo = {{1, 1}, {2, 2}, {3, 101}, {4, 102}, {399, 19901}, {400, 19902}};
        for (int[] row : byTwo) {
            x.gift(0, 1, row[0]);
            due.is(row[0] + " by 2", x.told(1, 0), row[1]);
            due.is("the other owes nothing", x.told(0, 1), 0);
            x.gift(1, 0, row[0]);
            due.is("nothing again", x.told(1, 0), 0);
        }
        int[][] byMany = {{1, 1}, {41, 41}, {42, 101}, {82, 141}, {83, 201}, {369, 841}, {370, 901}, {400, 931}};
        for (int[] row : byMany) {
            x.gift(1, 0, row[0]);
            due.is(row[0] + " by 41", x.told(0, 1), row[1]);
            x.gift(0, 1, row[0]);
        }
        due.is("itself", x.told(0, 0), BAD);
        due.is("no PERSON 2", x.told(0, 2), BAD);
    }

    /** Each PERSON of a row owes the next one n, and the last the first. */
    private static void round(ArmCounts x, int n, int... row) {
        for (int i = 0; i < row.length; i++) {
            x.gift(row[(i + 1) % row.length], row[i], n);
        }
    }

    private static void closedRound() {
        due.says("CLOSED ROUND: a row of unlike PERSONS each of which owes the next one, and the last the first, by three or more:");
        due.is("nobody", new ArmCounts().close(), 0);
        for (int n = 1; n <= 2; n++) {
            ArmCounts x = people(n);
            x.gift(0, 1, 5);
            due.is("fewer than three", x.close(), 0);
            due.is("as it was", x.count(6), n == 1 ? 0 : 5);
        }
        for (int n = 3; n <= 8; n++) {
            for (int sum : new int[] {1, 2, 3, 400}) {
                ArmCounts x = people(8);
                round(x, sum, Due.row(n, 8 - n));
                due.is(n + " of " + sum + " each", x.count(6), n * sum);
                due.is("one row", x.close(), 1);
                due.is("nothing is owed", x.count(6), 0);
                due.is("no row more", x.close(), 0);
            }
        }
        ArmCounts x = people(3);
        x.gift(1, 0, 5);
        x.gift(2, 1, 5);
        x.gift(2, 0, 5);
        due.is("the last does not owe the first", x.close(), 0);
        due.is("as it was", x.count(6), 15);
    }

    private static void leastSum() {
        due.says("the least sum owed in it is taken off all.");
        for (int least = 0; least < 4; least++) {
            ArmCounts x = people(4);
            round(x, 9, 0, 1, 2, 3);
            x.gift(least, (least + 1) % 4, 8);
            due.is("one row", x.close(), 1);
            for (int p = 0; p < 4; p++) {
                due.is(p + " owes the next", x.owed(p, (p + 1) % 4), p == least ? 0 : 8);
            }
        }
    }

    private static void shortestFirst() {
        due.says("CLOSING: again and again the shortest such row,");
        ArmCounts x = people(8);
        round(x, 2, 0, 1, 2, 3);
        x.gift(2, 0, 1);
        x.gift(0, 2, 3);
        due.is("no row of 0 2 3 now, and 0 1 2 ahead of 0 1 2 3", x.close(), 1);
        due.is("2 owes 3 still", x.owed(2, 3), 2);
        due.is("2 owes 0", x.owed(2, 0), 0);
        due.is("0 owes 1", x.owed(0, 1), 0);

        x = people(8);
        round(x, 4, 0, 1, 2, 3, 4);
        round(x, 4, 5, 6, 7);
        round(x, 1, 4, 7);
        x.gift(7, 4, 4);
        x.gift(3, 7, 4);
        due.is("5 6 7 and 3 4 7 ahead of five", x.close(), 2);
        due.is("0 owes 1 still", x.owed(0, 1), 4);
        due.is("3 owes 4 no more", x.owed(3, 4), 0);
    }

    private static void leastPersonFirst() {
        due.says("of like ones the least PERSON first in it (the least of the row is told first), then the next .., is CLOSED");
        ArmCounts x = people(8);
        x.gift(7, 6, 5);
        x.gift(5, 7, 9);
        x.gift(6, 5, 9);
        x.gift(0, 7, 9);
        x.gift(6, 0, 9);
        due.is("0 6 7 ahead of 5 6 7", x.close(), 1);
        due.is("5 owes 6 still", x.owed(5, 6), 9);
        due.is("0 owes 6", x.owed(0, 6), 4);

        x = people(8);
        x.gift(6, 7, 5);
        x.gift(0, 6, 5);
        x.gift(7, 0, 3);
        x.gift(5, 6, 9);
        x.gift(7, 5, 9);
        due.is("0 7 6, told from the least", x.close(), 2);
        due.is("0 owes 7 nothing", x.owed(0, 7), 0);
        due.is("then 5 7 6", x.owed(5, 7), 7);
        due.is("7 owes 6 nothing", x.owed(7, 6), 0);

        x = people(8);
        x.gift(1, 0, 9);
        x.gift(7, 1, 9);
        x.gift(0, 7, 4);
        x.gift(2, 0, 9);
        x.gift(3, 2, 9);
        x.gift(0, 3, 9);
        x.gift(7, 2, 9);
        due.is("0 1 7 and 0 2 3 ahead of 0 2 7", x.close(), 2);
        due.is("2 owes 7 still", x.owed(2, 7), 9);
        due.is("1 owes 7", x.owed(1, 7), 5);
        lastPersons();
    }

    /** Rows that are alike but for the last PERSON. */
    private static void lastPersons() {
        ArmCounts x = people(8);
        x.gift(1, 0, 4);
        x.gift(2, 1, 4);
        for (int p = 3; p < 8; p++) {
            x.gift(p, 2, 9);
            x.gift(0, p, 9);
        }
        due.is("0 1 2 3 ahead of 0 1 2 4 and the others", x.close(), 1);
        due.is("2 owes 3", x.owed(2, 3), 5);
        due.is("2 owes 4", x.owed(2, 4), 9);
        due.is("2 owes 7", x.owed(2, 7), 9);
    }

    private static void tillNone() {
        due.says("till there is none.");
        ArmCounts x = people(6);
        round(x, 3, 0, 1, 2);
        round(x, 5, 3, 4, 5);
        due.is("two apart", x.close(), 2);
        due.is("nothing is owed", x.count(6), 0);
        x = people(5);
        round(x, 3, 0, 1, 2);
        x.gift(3, 0, 7);
        x.gift(4, 3, 7);
        x.gift(0, 4, 7);
        x.gift(1, 0, 2);
        x.gift(4, 1, 2);
        due.is("0 1 2, 0 1 4, then what is left of 0 3 4", x.close(), 3);
        due.is("1 owes 4", x.owed(1, 4), 0);
        due.is("4 owes 0", x.owed(4, 0), 0);
        due.is("3 owes 4", x.owed(3, 4), 2);
        x = people(7);
        for (int p = 1; p < 6; p++) {
            x.gift(p, 0, 10);
            x.gift(6, p, 10);
        }
        x.gift(0, 6, 50);
        due.is("five by one debt", x.close(), 5);
        due.is("nothing is owed", x.count(6), 0);
    }

    private static void worth() {
        due.says("What a PERSON gets in all, less what it owes in all. BAD: -100000.");
        ArmCounts x = people(8);
        due.is("nothing", x.worth(0), 0);
        for (int p = 1; p < 8; p++) {
            x.gift(0, p, 400);
        }
        due.is("all that may be", x.worth(0), 2800);
        due.is("it owes", x.worth(7), -400);
        for (int p = 0; p < 7; p++) {
            x.gift(p, 7, p == 0 ? 0 : 400);
        }
        due.is("it owes all that may be", x.worth(7), -2800);
        due.is("gets and owes", x.worth(3), 0);
        due.is("no PERSON 8", x.worth(8), -100000);
        due.is("no PERSON -1", x.worth(-1), -100000);
    }

    private static void allThatIsOwed() {
        due.says("6 all that is OWED,");
        ArmCounts x = people(8);
        due.is("nothing", x.count(6), 0);
        int sum = 0;
        for (int a = 0; a < 8; a++) {
            for (int b = 0; b < a; b++) {
                x.gift((a + b) % 2 == 0 ? a : b, (a + b) % 2 == 0 ? b : a, 400);
                sum += 400;
                due.is("more", x.count(6), sum);
            }
        }
        due.is("all that may be", x.count(6), 11200);
    }
}
