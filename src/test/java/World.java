import java.util.ArrayList;
import java.util.Arrays;
import java.util.List;

/** Objects that are made anew by the same calls, so that two of them are alike. */
enum World {
    /** Nothing was made. */
    EMPTY,
    /** Some of everything: 2 COUNTS, 3 PERSONS, 3 LISTS, SHEETS 0 to 2; SHEET 3 is LOST; the latest FINDING is SIZE. */
    SOME,
    /** As much of everything as there may be, but for SHEET 3, which is LOST; the latest FINDING is STORE. */
    CROWDED;

    static final int LEAST = Integer.MIN_VALUE, MOST = Integer.MAX_VALUE;

    Face make() {
        Face x = new Face();
        if (this == SOME) {
            some(x);
        } else if (this == CROWDED) {
            crowd(x);
        }
        return x;
    }

    private static void some(Face x) {
        x.row(0, 0, 11, 12, 13, 14, 15, 16);
        x.row(1, 1, 7, 7, 100, -1);
        x.row(2, 2, 11, 13, 11);
        x.call("countBy", 0, 2, true);
        x.call("countBy", 0, 3, false);
        x.call("begins", 1, 1);
        x.call("mat", 12);
        x.call("clue", 0, 0, 11, -1, -1);
        x.call("less", 0, 1);
        x.call("person", 0);
        x.call("person", 1);
        x.call("person", 0);
        x.call("gift", 0, 1, 9);
        x.call("gift", 1, 2, 400);
        x.call("list", 0, 4, 100);
        x.call("list", 1, 4, 50);
        x.call("list", 0, 6, 120);
        x.say("p1+m2p3");
        x.call("sheet", 2, 2, -1);
    }

    private static void crowd(Face x) {
        x.row(0, 2, Due.row(22, 40));
        x.row(1, 1, 5, 5, 6);
        x.row(2, 0);
        int[] halves = {1, 20, 20, 5, 2, 1};
        for (int c = 0; c < 6; c++) {
            x.call("countBy", 0, halves[c], c % 2 == 1);
        }
        x.call("begins", 3, 1);
        x.call("mat", 40);
        for (int i = 0; i < 8; i++) {
            x.call("person", i % 6);
            x.call("list", 0, 20 - i, 1000 + 7 * i);
            x.call("mats", i % 3, 1 + i, 40 - i);
        }
        for (int p = 0; p < 7; p++) {
            x.call("gift", p, p + 1, 400 - p);
        }
        x.say("m12p1+m13p2-m14p3+p1-p1+p1-p1+p1-p1+p1-p1+p1-p1+p1-p1+p1-p01");
        x.call("copy", 0, 0, 1, 0, 0);
    }

    /** The answers to all that can be asked, count(8) first, since asking for items finds things. */
    static List<Long> ask(Face x) {
        List<Long> answers = new ArrayList<>();
        for (int what = 8; what >= 0; what--) {
            answers.add(x.call("count", what));
        }
        answers.add(x.call("digest"));
        for (int s = 0; s < 4; s++) {
            for (int form = 0; form < 3; form++) {
                for (int i = 0; i < 7; i++) {
                    answers.add(x.call("get", s, form, i));
                }
            }
        }
        for (int l = 0; l < 8; l++) {
            for (int i = 0; i < 6; i++) {
                answers.add(x.call("word", l, i));
            }
            answers.add(x.call("told", l, (l + 1) % 8));
            answers.add(x.call("told", (l + 1) % 8, l));
        }
        askRiddle(x, answers);
        for (int c = 0; c < 6; c++) {
            answers.add(x.call("speech", c));
        }
        for (String last : List.of("fault", "hush", "forget")) {
            answers.add(x.call(last));
        }
        for (int s = 0; s < 4; s++) {
            answers.add(x.call("lose", s));
        }
        return answers;
    }

    private static void askRiddle(Face x, List<Long> answers) {
        for (int u = 0; u < 3; u++) {
            answers.add(x.call("sure", u));
            for (int i : new int[] {0, 1, 50}) {
                answers.add(x.call("solution", i, u));
            }
        }
        answers.add(x.call("quarrel"));
    }

    /** Makes one of two alike objects answer the call, and asks both all. */
    void leaves(Due due, long want, int finding, String name, Object... arguments) {
        String told = this + ": " + name + Arrays.toString(arguments);
        Face one = make();
        Face other = make();
        due.is(told, one.call(name, arguments), want);
        List<Long> after = ask(one);
        List<Long> before = ask(other);
        due.is(told + ", then count(8)", after.get(0), finding == SAME ? before.get(0) : finding);
        due.is(told + ", how many answers", after.size(), before.size());
        for (int i = 1; i < before.size(); i++) {
            due.is(told + ", what is asked as number " + i, after.get(i), before.get(i));
        }
    }

    private static final int SAME = -1;

    /** A call that is refused without a FINDING changes nothing. */
    void refuses(Due due, long want, String name, Object... arguments) {
        leaves(due, want, SAME, name, arguments);
    }

    /** A FINDING changes nothing but count(8). */
    void finds(Due due, int finding, String name, Object... arguments) {
        leaves(due, name.equals("get") ? LEAST : -10 - finding, finding, name, arguments);
    }
}
