/** Promises 20 to 28. */
public final class TradeTest {
    private static final Due due = new Due("TradeTest");

    public static void main(String[] args) {
        heard();
        heardAbove();
        clearAndTrap();
        persons();
        gifts();
        told();
        closing();
        closingOrder();
        worth();
        due.end();
    }

    private static void heard() {
        ArmCounts x = new ArmCounts();
        Due.count(x, true, 1, 2, 3);
        Due.count(x, false, 1, 3, 2);
        due.is("the first", x.heard(0, 1, 1), 1);
        due.is("second", x.heard(0, 1, 2), 3);
        due.is("a nose is heard by none", x.heard(0, 1, 3), -1);
        due.is("other side", x.heard(0, 1, 4), 4);
        due.is("the last", x.heard(0, 1, 5), 6);
        due.is("two men", x.heard(0, 1, 12), 15);
        due.is("back", x.heard(1, 0, 15), 12);
        x.begins(1, 1);
        due.is("the other hand", x.heard(0, 1, 1), 6);
        due.is("a", x.heard(2, 0, 1), -2);
        due.is("b", x.heard(0, 2, 1), -2);
        due.is("a below", x.heard(-1, 0, 1), -2);
        due.is("b below", x.heard(0, -1, 1), -2);
        due.is("n 0", x.heard(0, 1, 0), -2);
        due.is("n 401", x.heard(0, 1, 401), -2);
    }

    private static void heardAbove() {
        ArmCounts x = new ArmCounts();
        Due.count(x, false, 1, 2);
        Due.count(x, false, 2, 3, 4, 5);
        due.is("up to 400", x.heard(0, 1, 198), 393);
        due.is("other side up to 400", x.heard(0, 1, 199), 400);
        due.is("above 400", x.heard(0, 1, 202), -1);
        due.is("n 400", x.heard(0, 1, 400), -1);
    }

    private static void clearAndTrap() {
        ArmCounts x = new ArmCounts();
        Due.count(x, true, 1, 2, 3);
        Due.count(x, true, 1, 2, 4);
        Due.count(x, false, 1, 5, 2);
        due.is("all with itself", x.clear(0, 0, 400), 400);
        due.is("but the nose", x.clear(0, 1, 400), 320);
        due.is("up to 3", x.clear(0, 1, 3), 2);
        due.is("up to 1", x.clear(0, 1, 1), 1);
        due.is("none is heard as another", x.trap(0, 1), -1);
        due.is("itself", x.trap(0, 0), -1);
        due.is("2 is 3", x.trap(0, 2), 2);
        due.is("3 is 2", x.trap(2, 0), 3);
        x.begins(2, 1);
        due.is("1 is 6", x.trap(0, 2), 1);
        x.begins(2, 0);
        due.is("1 and 4", x.clear(0, 2, 400), 2);
        due.is("most 0", x.clear(0, 1, 0), -2);
        due.is("most 401", x.clear(0, 1, 401), -2);
        due.is("clear a", x.clear(3, 1, 1), -2);
        due.is("clear b", x.clear(0, -1, 1), -2);
        due.is("trap a", x.trap(-1, 0), -2);
        due.is("trap b", x.trap(0, 3), -2);
        trapFar();
    }

    private static void trapFar() {
        ArmCounts x = new ArmCounts();
        Due.count(x, false, 1, 2);
        Due.count(x, false, 1, 3);
        due.is("1 and 4 are heard as they are", x.clear(0, 1, 4), 2);
        due.is("all like rows", x.trap(0, 1), -1);
        Due.count(x, false, 1, 4, 5);
        due.is("the other side first", x.trap(0, 2), 4);
    }

    private static void persons() {
        ArmCounts x = new ArmCounts();
        due.is("without counts", x.person(0), -2);
        Due.count(x, true, 1, 2, 3);
        due.is("count -1", x.person(-1), -2);
        for (int p = 0; p < 8; p++) {
            due.is("person " + p, x.person(0), p);
        }
        due.is("FULL", x.person(0), -4);
        due.is("BAD ahead of FULL", x.person(1), -2);
        due.is("eight", x.count(3), 8);
    }

    private static ArmCounts people(int n) {
        ArmCounts x = new ArmCounts();
        Due.count(x, true, 1, 2, 3);
        Due.count(x, false, 1, 2, 3, 4);
        for (int p = 0; p < n; p++) {
            x.person(p % 2);
        }
        return x;
    }

    private static void gifts() {
        ArmCounts x = people(3);
        due.is("gift", x.gift(0, 1, 7), 7);
        due.is("more", x.gift(0, 1, 3), 10);
        due.is("1 owes 0", x.owed(1, 0), 10);
        due.is("0 owes nothing", x.owed(0, 1), 0);
        due.is("back, not all", x.gift(1, 0, 4), 0);
        due.is("left", x.owed(1, 0), 6);
        due.is("more than all", x.gift(1, 0, 8), 2);
        due.is("now 0 owes", x.owed(0, 1), 2);
        due.is("1 does not", x.owed(1, 0), 0);
        due.is("even", x.gift(0, 1, 2), 0);
        due.is("nothing", x.owed(0, 1) + x.owed(1, 0), 0);
        due.is("400", x.gift(2, 0, 400), 400);
        due.is("above", x.gift(2, 0, 1), -3);
        due.is("still", x.owed(0, 2), 400);
        due.is("back 1", x.gift(0, 2, 1), 0);
        due.is("again 400", x.gift(2, 0, 1), 400);
        due.is("the other way all", x.gift(0, 2, 400), 0);
        due.is("n 0", x.gift(0, 1, 0), -2);
        due.is("n 401", x.gift(0, 1, 401), -2);
        due.is("itself", x.gift(1, 1, 1), -2);
        due.is("a", x.gift(3, 1, 1), -2);
        due.is("b", x.gift(1, -1, 1), -2);
        due.is("owed itself", x.owed(1, 1), -2);
        due.is("owed a", x.owed(-1, 1), -2);
        due.is("owed b", x.owed(1, 3), -2);
    }

    private static void told() {
        ArmCounts x = people(2);
        due.is("nothing", x.told(1, 0), 0);
        x.gift(0, 1, 1);
        due.is("1", x.told(1, 0), 1);
        x.gift(0, 1, 4);
        due.is("5 by T 5", x.told(1, 0), 5);
        x.gift(0, 1, 1);
        due.is("6 by T 5", x.told(1, 0), 101);
        due.is("the other", x.told(0, 1), 0);
        x.gift(0, 1, 394);
        due.is("400 by T 5", x.told(1, 0), 7905);
        x.gift(1, 0, 400);
        x.gift(1, 0, 9);
        due.is("9 by T 8", x.told(0, 1), 101);
        due.is("itself", x.told(1, 1), -2);
        due.is("a", x.told(2, 1), -2);
        due.is("b", x.told(0, -1), -2);
    }

    /** Each of the row owes the next one n. */
    private static void owe(ArmCounts x, int n, int... row) {
        for (int i = 0; i < row.length; i++) {
            x.gift(row[(i + 1) % row.length], row[i], n);
        }
    }

    private static void closing() {
        ArmCounts x = people(8);
        due.is("nothing to close", x.close(), 0);
        x.gift(1, 0, 4);
        x.gift(2, 1, 4);
        due.is("no round", x.close(), 0);
        x.gift(0, 2, 1);
        due.is("a round of 1 each", x.close(), 1);
        due.is("0 to 1", x.owed(0, 1), 3);
        due.is("1 to 2", x.owed(1, 2), 3);
        due.is("2 to 0", x.owed(2, 0), 0);
        due.is("all", x.count(6), 6);
        owe(x, 2, 7, 6, 5, 4, 3, 2, 1, 0);
        due.is("two of the eight do not owe the next", x.close(), 0);
        owe(x, 4, 0, 1, 2, 3, 4, 5, 6, 7);
        due.is("eight round", x.close(), 1);
        due.is("0 to 1", x.owed(0, 1), 3);
        due.is("1 to 2", x.owed(1, 2), 3);
        due.is("the others", x.count(6), 6);
    }

    private static void closingOrder() {
        ArmCounts x = people(8);
        owe(x, 5, 0, 1, 2, 3);
        x.gift(4, 0, 9);
        x.gift(5, 4, 3);
        x.gift(0, 5, 9);
        x.gift(5, 1, 1);
        due.is("three ahead of four", x.close(), 3);
        due.is("0 4 5 and 0 1 5, then four: 0 to 1", x.owed(0, 1), 0);
        due.is("5 to 0", x.owed(5, 0), 5);
        due.is("3 to 0", x.owed(3, 0), 1);
        due.is("0 to 4", x.owed(0, 4), 6);

        x = people(5);
        x.gift(1, 0, 10);
        x.gift(2, 1, 4);
        x.gift(3, 1, 4);
        x.gift(0, 2, 4);
        x.gift(0, 3, 4);
        due.is("both", x.close(), 2);
        due.is("0 to 1", x.owed(0, 1), 2);

        x = people(4);
        x.gift(1, 0, 3);
        x.gift(2, 1, 9);
        x.gift(3, 1, 9);
        x.gift(0, 2, 9);
        x.gift(0, 3, 9);
        due.is("0 1 2 ahead of 0 1 3", x.close(), 1);
        due.is("1 to 2", x.owed(1, 2), 6);
        due.is("1 to 3", x.owed(1, 3), 9);

        x = people(5);
        owe(x, 2, 4, 2, 3);
        owe(x, 2, 3, 0, 1);
        due.is("apart", x.close(), 2);
        due.is("none left", x.count(6), 0);
    }

    private static void worth() {
        ArmCounts x = people(4);
        due.is("nothing", x.worth(0), 0);
        x.gift(0, 1, 30);
        x.gift(0, 2, 20);
        x.gift(3, 0, 100);
        due.is("0", x.worth(0), -50);
        due.is("1", x.worth(1), -30);
        due.is("3", x.worth(3), 100);
        due.is("4", x.worth(4), -100000);
        due.is("-1", x.worth(-1), -100000);
        due.is("all that is owed", x.count(6), 150);
    }
}
