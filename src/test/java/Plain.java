import java.util.ArrayList;
import java.util.Arrays;
import java.util.HashMap;
import java.util.HashSet;
import java.util.List;
import java.util.Map;
import java.util.Set;

/** The document told a second time, as plainly as it can be and without care for speed, for ModelTest to compare with. */
final class Plain {
    private static final int NONE = -1, BAD = -2, NOT = -3, FULL = -4;

    private static final class Count {
        final List<Integer> words = new ArrayList<>();
        final List<Integer> sides = new ArrayList<>();
        int m;
        int nose;
        int begins;

        int t() {
            return words.size();
        }

        /** PLACE and MEN of a number, by counting it out. */
        int[] of(int n) {
            int men = 0;
            int k = 0;
            for (int i = 0; i < n; i++) {
                k++;
                if (k > t()) {
                    k = 1;
                    men++;
                }
            }
            return new int[] {men, k};
        }

        int word(int n) {
            return words.get(of(n)[1] - 1);
        }

        int handAt(int k) {
            int side = sides.get(k - 1);
            return side == 2 ? 2 : side ^ begins;
        }

        int hand(int n) {
            return handAt(of(n)[1]);
        }

        boolean means(int word, int hand, int men, int n) {
            return word(n) == word && (hand == NONE || hand(n) == hand) && (men == NONE || of(n)[0] == men);
        }
    }

    private static final class Words {
        final List<Integer> items = new ArrayList<>();
        int year;

        int at(int i) {
            return i < items.size() ? items.get(i) : NONE;
        }
    }

    private interface Clue {
        boolean holds(int[] numbers);
    }

    private final List<Count> counts = new ArrayList<>();
    private final List<Clue> clues = new ArrayList<>();
    private int mat = 30;
    private final List<Integer> persons = new ArrayList<>();
    private final int[][] given = new int[8][8];
    private final List<Words> lists = new ArrayList<>();
    private String speech = "";
    private final Object[] sheets = new Object[4];
    private int finding;

    private static boolean in(int v, int low, int high) {
        return low <= v && v <= high;
    }

    private boolean noCount(int c) {
        return !in(c, 0, counts.size() - 1);
    }

    private int find(int number) {
        finding = number;
        return -10 - number;
    }

    private int length(int s) {
        return java.lang.reflect.Array.getLength(sheets[s]);
    }

    private int item(int s, int i) {
        return ((Number) java.lang.reflect.Array.get(sheets[s], i)).intValue();
    }

    // ---- counts

    int countBy(int s, int m, boolean nose) {
        if (!in(s, 0, 3) || !in(m, 1, 20)) {
            return BAD;
        }
        if (sheets[s] == null) {
            return find(1);
        }
        int all = m + (nose ? 1 : 0);
        if (all > length(s)) {
            return find(2);
        }
        Set<Integer> seen = new HashSet<>();
        for (int i = 0; i < all; i++) {
            if (!in(item(s, i), 0, 99) || !seen.add(item(s, i))) {
                return NOT;
            }
        }
        if (counts.size() == 6) {
            return FULL;
        }
        Count c = new Count();
        c.m = m;
        c.nose = nose ? 1 : 0;
        for (int i = 0; i < m; i++) {
            c.words.add(item(s, i));
            c.sides.add(0);
        }
        if (nose) {
            c.words.add(item(s, m));
            c.sides.add(2);
        }
        for (int i = m - 1; i >= 0; i--) {
            c.words.add(item(s, i));
            c.sides.add(1);
        }
        counts.add(c);
        return counts.size() - 1;
    }

    int begins(int count, int hand) {
        if (noCount(count) || !in(hand, 0, 1)) {
            return BAD;
        }
        int before = counts.get(count).begins;
        counts.get(count).begins = hand;
        return before;
    }

    int about(int count, int what) {
        if (noCount(count) || !in(what, 0, 3)) {
            return BAD;
        }
        Count c = counts.get(count);
        return new int[] {c.t(), c.m, c.nose, c.begins}[what];
    }

    int place(int count, int k, int what) {
        if (noCount(count) || !in(k, 1, counts.get(count).t()) || !in(what, 0, 2)) {
            return BAD;
        }
        Count c = counts.get(count);
        return new int[] {c.words.get(k - 1), c.sides.get(k - 1), c.handAt(k)}[what];
    }

    int number(int count, int n, int what) {
        if (noCount(count) || !in(n, 1, 400) || !in(what, 0, 3)) {
            return BAD;
        }
        Count c = counts.get(count);
        return new int[] {c.of(n)[0], c.of(n)[1], c.word(n), c.hand(n)}[what];
    }

    int value(int count, int men, int k) {
        if (noCount(count) || !in(men, 0, 20) || !in(k, 1, counts.get(count).t())) {
            return BAD;
        }
        return counts.get(count).t() * men + k;
    }

    // ---- meanings, unknowns

    private boolean badPoint(int count, int word, int hand, int men) {
        return noCount(count) || !in(word, 0, 99) || !in(hand, -1, 2) || !in(men, -1, 20);
    }

    private List<Integer> allMeanings(int count, int word, int hand, int men, int most) {
        List<Integer> found = new ArrayList<>();
        for (int n = 1; n <= most; n++) {
            if (counts.get(count).means(word, hand, men, n)) {
                found.add(n);
            }
        }
        return found;
    }

    int meanings(int count, int word, int hand, int men, int most) {
        if (badPoint(count, word, hand, men) || !in(most, 1, 400)) {
            return BAD;
        }
        return allMeanings(count, word, hand, men, most).size();
    }

    int meaning(int count, int word, int hand, int men, int i) {
        if (badPoint(count, word, hand, men) || i < 0) {
            return BAD;
        }
        List<Integer> found = allMeanings(count, word, hand, men, 400);
        return i < found.size() ? found.get(i) : NONE;
    }

    int mat(int most) {
        if (!in(most, 1, 40)) {
            return BAD;
        }
        int before = mat;
        mat = most;
        return before;
    }

    private int add(Clue clue) {
        if (clues.size() == 8) {
            return FULL;
        }
        clues.add(clue);
        return clues.size();
    }

    int clue(int unknown, int count, int word, int hand, int men) {
        if (!in(unknown, 0, 2) || badPoint(count, word, hand, men)) {
            return BAD;
        }
        Count c = counts.get(count);
        return add(n -> c.means(word, hand, men, n[unknown]));
    }

    int sum(int i, int j, int k) {
        return in(i, 0, 2) && in(j, 0, 2) && in(k, 0, 2) ? add(n -> n[i] + n[j] == n[k]) : BAD;
    }

    int less(int i, int j) {
        return in(i, 0, 2) && in(j, 0, 2) && i != j ? add(n -> n[i] < n[j]) : BAD;
    }

    int mats(int i, int n, int m) {
        return in(i, 0, 2) && 1 <= n && n <= m && m <= 40 ? add(u -> in(u[i], n, m)) : BAD;
    }

    int forget() {
        int before = clues.size();
        clues.clear();
        return before;
    }

    private List<int[]> allSolutions(List<Clue> by) {
        List<int[]> found = new ArrayList<>();
        for (int a = 1; a <= mat; a++) {
            for (int b = 1; b <= mat; b++) {
                for (int c = 1; c <= mat; c++) {
                    int[] n = {a, b, c};
                    boolean all = true;
                    for (Clue clue : by) {
                        all = all && clue.holds(n);
                    }
                    if (all) {
                        found.add(n);
                    }
                }
            }
        }
        return found;
    }

    int solutions() {
        return allSolutions(clues).size();
    }

    int solution(int i, int u) {
        if (i < 0 || !in(u, 0, 2)) {
            return BAD;
        }
        List<int[]> found = allSolutions(clues);
        return i < found.size() ? found.get(i)[u] : NONE;
    }

    int sure(int u) {
        if (!in(u, 0, 2)) {
            return BAD;
        }
        Set<Integer> numbers = new HashSet<>();
        for (int[] n : allSolutions(clues)) {
            numbers.add(n[u]);
        }
        if (numbers.isEmpty()) {
            return NOT;
        }
        return numbers.size() == 1 ? numbers.iterator().next() : NONE;
    }

    int quarrel() {
        int best = 0;
        for (int set = (1 << clues.size()) - 1; set > 0; set--) {
            List<Clue> by = new ArrayList<>();
            for (int c = 0; c < clues.size(); c++) {
                if ((set & 1 << c) != 0) {
                    by.add(clues.get(c));
                }
            }
            boolean better = best == 0 || by.size() <= Integer.bitCount(best);
            if (better && allSolutions(by).isEmpty()) {
                best = set;
            }
        }
        return best;
    }

    // ---- trade

    private int hear(Count a, Count b, int n) {
        for (int h = 1; h <= 400; h++) {
            if (a.word(n) == b.word(h) && a.hand(n) == b.hand(h) && a.of(n)[0] == b.of(h)[0]) {
                return h;
            }
        }
        return NONE;
    }

    int heard(int a, int b, int n) {
        return noCount(a) || noCount(b) || !in(n, 1, 400) ? BAD : hear(counts.get(a), counts.get(b), n);
    }

    int clear(int a, int b, int most) {
        if (noCount(a) || noCount(b) || !in(most, 1, 400)) {
            return BAD;
        }
        int found = 0;
        for (int n = 1; n <= most; n++) {
            found += hear(counts.get(a), counts.get(b), n) == n ? 1 : 0;
        }
        return found;
    }

    int trap(int a, int b) {
        if (noCount(a) || noCount(b)) {
            return BAD;
        }
        for (int n = 1; n <= 400; n++) {
            int h = hear(counts.get(a), counts.get(b), n);
            if (h != n && h != NONE) {
                return n;
            }
        }
        return NONE;
    }

    int person(int count) {
        if (noCount(count)) {
            return BAD;
        }
        if (persons.size() == 8) {
            return FULL;
        }
        persons.add(count);
        return persons.size() - 1;
    }

    private boolean noTwo(int a, int b) {
        return !in(a, 0, persons.size() - 1) || !in(b, 0, persons.size() - 1) || a == b;
    }

    private int debt(int a, int b) {
        return Math.max(0, given[b][a] - given[a][b]);
    }

    int gift(int a, int b, int n) {
        if (noTwo(a, b) || !in(n, 1, 400)) {
            return BAD;
        }
        given[a][b] += n;
        if (debt(b, a) > 400) {
            given[a][b] -= n;
            return NOT;
        }
        return debt(b, a);
    }

    int owed(int a, int b) {
        return noTwo(a, b) ? BAD : debt(a, b);
    }

    int told(int a, int b) {
        if (noTwo(a, b)) {
            return BAD;
        }
        if (debt(a, b) == 0) {
            return 0;
        }
        int[] of = counts.get(persons.get(b)).of(debt(a, b));
        return 100 * of[0] + of[1];
    }

    /** All rows of unlike PERSONS that owe round, each told from its least one on. */
    private void rows(List<Integer> row, List<List<Integer>> found) {
        int last = row.get(row.size() - 1);
        if (row.size() >= 3 && debt(last, row.get(0)) > 0) {
            found.add(new ArrayList<>(row));
        }
        for (int p = row.get(0) + 1; p < persons.size(); p++) {
            if (!row.contains(p) && debt(last, p) > 0) {
                row.add(p);
                rows(row, found);
                row.remove(row.size() - 1);
            }
        }
    }

    private static int compare(List<Integer> a, List<Integer> b) {
        if (a.size() != b.size()) {
            return a.size() - b.size();
        }
        return Arrays.compare(a.stream().mapToInt(v -> v).toArray(), b.stream().mapToInt(v -> v).toArray());
    }

    int close() {
        for (int closed = 0; ; closed++) {
            List<List<Integer>> found = new ArrayList<>();
            for (int p = 0; p < persons.size(); p++) {
                rows(new ArrayList<>(List.of(p)), found);
            }
            if (found.isEmpty()) {
                return closed;
            }
            found.sort(Plain::compare);
            List<Integer> row = found.get(0);
            int least = 400;
            for (int i = 0; i < row.size(); i++) {
                least = Math.min(least, debt(row.get(i), row.get((i + 1) % row.size())));
            }
            for (int i = 0; i < row.size(); i++) {
                given[row.get(i)][row.get((i + 1) % row.size())] += least;
            }
        }
    }

    int worth(int person) {
        if (!in(person, 0, persons.size() - 1)) {
            return -100000;
        }
        int sum = 0;
        for (int p = 0; p < persons.size(); p++) {
            sum += debt(p, person) - debt(person, p);
        }
        return sum;
    }

    // ---- lists

    private boolean noList(int l) {
        return !in(l, 0, lists.size() - 1);
    }

    int list(int s, int n, int year) {
        if (!in(s, 0, 3) || !in(n, 0, 30) || !in(year, 0, 3000)) {
            return BAD;
        }
        if (sheets[s] == null) {
            return find(1);
        }
        if (n > length(s)) {
            return find(2);
        }
        if (lists.size() == 8) {
            return FULL;
        }
        Words l = new Words();
        l.year = year;
        for (int i = 0; i < n; i++) {
            l.items.add(in(item(s, i), 0, 99) ? item(s, i) : NONE);
        }
        lists.add(l);
        return lists.size() - 1;
    }

    int word(int list, int i) {
        return noList(list) || !in(i, 0, lists.get(list).items.size() - 1) ? BAD : lists.get(list).at(i);
    }

    int listIs(int list, int what) {
        if (noList(list) || !in(what, 0, 4)) {
            return BAD;
        }
        Words l = lists.get(list);
        int gaps = 0;
        int tens = 0;
        int could = 0;
        for (int i = 0; i < l.items.size(); i++) {
            gaps += l.at(i) == NONE ? 1 : 0;
            if (i >= 10 && l.at(i) != NONE && l.at(i % 10) != NONE) {
                could++;
                tens += l.at(i) == l.at(i % 10) ? 1 : 0;
            }
        }
        int shopped = could > 0 && tens >= could - tens ? 1 : 0;
        return new int[] {l.items.size(), l.year, gaps, tens, shopped}[what];
    }

    private int distance(Words a, int i, Words b, int j, Map<Integer, Integer> known) {
        int key = 100 * i + j;
        if (known.containsKey(key)) {
            return known.get(key);
        }
        int best = Integer.MAX_VALUE;
        if (i == a.items.size() && j == b.items.size()) {
            best = 0;
        }
        if (i < a.items.size()) {
            best = Math.min(best, 2 + distance(a, i + 1, b, j, known));
        }
        if (j < b.items.size()) {
            best = Math.min(best, 2 + distance(a, i, b, j + 1, known));
        }
        if (i < a.items.size() && j < b.items.size()) {
            boolean free = a.at(i) == NONE || b.at(j) == NONE || a.at(i) == b.at(j);
            best = Math.min(best, (free ? 0 : 3) + distance(a, i + 1, b, j + 1, known));
        }
        known.put(key, best);
        return best;
    }

    int changes(int list, int other) {
        return noList(list) || noList(other) ? BAD
            : distance(lists.get(list), 0, lists.get(other), 0, new HashMap<>());
    }

    int mother(int list) {
        if (noList(list)) {
            return BAD;
        }
        List<int[]> all = new ArrayList<>();
        for (int m = 0; m < lists.size(); m++) {
            if (lists.get(m).year < lists.get(list).year) {
                all.add(new int[] {changes(m, list), -lists.get(m).year, m});
            }
        }
        all.sort(Arrays::compare);
        return all.isEmpty() ? NONE : all.get(0)[2];
    }

    private int[] bestTwo(int list) {
        Words l = lists.get(list);
        List<int[]> all = new ArrayList<>();
        for (int a = 0; a < lists.size(); a++) {
            for (int b = a + 1; b < lists.size(); b++) {
                Words one = lists.get(a);
                Words two = lists.get(b);
                if (one.year < l.year && two.year < l.year
                    && one.items.size() == l.items.size() && two.items.size() == l.items.size()) {
                    int strange = 0;
                    for (int i = 0; i < l.items.size(); i++) {
                        boolean lost = l.at(i) == NONE || one.at(i) == NONE || two.at(i) == NONE;
                        strange += !lost && l.at(i) != one.at(i) && l.at(i) != two.at(i) ? 1 : 0;
                    }
                    all.add(new int[] {strange, a, b});
                }
            }
        }
        all.sort(Arrays::compare);
        return all.isEmpty() ? null : all.get(0);
    }

    int mothers(int list) {
        if (noList(list)) {
            return BAD;
        }
        int[] two = bestTwo(list);
        return two == null ? NONE : 10 * two[1] + two[2];
    }

    int strange(int list) {
        if (noList(list)) {
            return BAD;
        }
        int[] two = bestTwo(list);
        return two == null ? NONE : two[0];
    }

    int age(int list) {
        if (noList(list)) {
            return BAD;
        }
        int m = mother(list);
        return m == NONE ? 0 : 1 + age(m);
    }

    int slips(int list, int other) {
        if (noList(list) || noList(other) || list == other) {
            return BAD;
        }
        Words a = lists.get(list);
        Words b = lists.get(other);
        int found = 0;
        for (int i = 0; i < 30; i++) {
            boolean slip = a.at(i) != NONE && a.at(i) == b.at(i);
            for (Words l : lists) {
                slip = slip && !(l.year < a.year && l.year < b.year && l.at(i) == a.at(i));
            }
            found += slip ? 1 : 0;
        }
        return found;
    }

    // ---- tales, speech

    private boolean tells(int s, int n, int count, int start, int step) {
        for (int i = 0; i < n; i++) {
            int number = start + i * step;
            if (number > 400 || (in(item(s, i), 0, 99) && counts.get(count).word(number) != item(s, i))) {
                return false;
            }
        }
        return true;
    }

    private List<Integer> allReadings(int s, int n) {
        List<Integer> found = new ArrayList<>();
        for (int count = 0; count < counts.size(); count++) {
            for (int start = 1; start <= 99; start++) {
                for (int step = 1; step <= 20; step++) {
                    if (tells(s, n, count, start, step)) {
                        found.add(count * 100000 + step * 1000 + start);
                    }
                }
            }
        }
        return found;
    }

    int readings(int s, int n) {
        if (!in(s, 0, 3) || !in(n, 1, 30)) {
            return BAD;
        }
        if (sheets[s] == null) {
            return find(1);
        }
        return n > length(s) ? find(2) : allReadings(s, n).size();
    }

    int reading(int s, int n, int i) {
        if (!in(s, 0, 3) || !in(n, 1, 30) || i < 0) {
            return BAD;
        }
        if (sheets[s] == null) {
            return find(1);
        }
        if (n > length(s)) {
            return find(2);
        }
        List<Integer> found = allReadings(s, n);
        return i < found.size() ? found.get(i) : NONE;
    }

    int fits(int s, int n, int count, int start, int step) {
        if (!in(s, 0, 3) || !in(n, 1, 30) || noCount(count) || !in(start, 1, 99) || !in(step, 1, 20)) {
            return BAD;
        }
        if (sheets[s] == null) {
            return find(1);
        }
        return n > length(s) ? find(2) : tells(s, n, count, start, step) ? 1 : 0;
    }

    int type(int b) {
        if (!in(b, 0, 255)) {
            return BAD;
        }
        if (speech.length() == 60) {
            return FULL;
        }
        speech += (char) b;
        return speech.length();
    }

    int hush() {
        int before = speech.length();
        speech = "";
        return before;
    }

    /** Texts that a SPEECH may begin with, each PLACE in them being 1 or more or not yet ended. */
    private static boolean canGoOn(String text) {
        String number = "(m[0-9]{1,2})?p([1-9][0-9]?|0[1-9])";
        return text.matches("(" + number + "[-+])*(" + number + "|(m[0-9]{0,2})?|(m[0-9]{1,2})?p0?)");
    }

    int fault() {
        String number = "(m[0-9]{1,2})?p([1-9][0-9]?|0[1-9])";
        if (speech.matches(number + "([-+]" + number + ")*")) {
            return NONE;
        }
        int good = 0;
        while (good < speech.length() && canGoOn(speech.substring(0, good + 1))) {
            good++;
        }
        // A PLACE that ends as 0 is told at its first figure.
        boolean zero = good >= 2 && speech.startsWith("p0", good - 2);
        return zero && speech.substring(0, good).matches(".*p0") ? good - 1 : good;
    }

    int speech(int count) {
        if (noCount(count)) {
            return -100000;
        }
        if (fault() != NONE) {
            return -100001;
        }
        int t = counts.get(count).t();
        int sum = 0;
        for (String part : speech.split("(?=[-+])")) {
            boolean minus = part.startsWith("-");
            String[] two = part.replaceAll("[-+m]", "").split("p");
            int men = two[0].isEmpty() ? 0 : Integer.parseInt(two[0]);
            int k = Integer.parseInt(two[1]);
            if (k > t) {
                return -100001;
            }
            sum += (minus ? -1 : 1) * (men * t + k);
        }
        return sum;
    }

    // ---- sheets

    private static Object newRow(int form, int n) {
        return form == 0 ? (Object) new byte[n] : form == 1 ? (Object) new short[n] : (Object) new int[n];
    }

    int sheet(int s, int form, int n) {
        if (!in(s, 0, 3) || !in(form, 0, 2) || n > 60) {
            return BAD;
        }
        if (n < 0) {
            return find(5);
        }
        sheets[s] = newRow(form, n);
        return n;
    }

    int lose(int s) {
        if (!in(s, 0, 3)) {
            return BAD;
        }
        if (sheets[s] == null) {
            return find(1);
        }
        int n = length(s);
        sheets[s] = null;
        return n;
    }

    private int touch(int s, int form, int i) {
        if (sheets[s] == null) {
            return find(1);
        }
        if (sheets[s].getClass() != newRow(form, 0).getClass()) {
            return find(3);
        }
        return in(i, 0, length(s) - 1) ? 1 : find(2);
    }

    int put(int s, int form, int i, int v) {
        if (!in(s, 0, 3) || !in(form, 0, 2)) {
            return BAD;
        }
        int answer = touch(s, form, i);
        if (answer == 1) {
            store(s, i, v);
        }
        return answer;
    }

    private void store(int s, int i, int v) {
        if (sheets[s] instanceof byte[] row) {
            row[i] = (byte) v;
        } else if (sheets[s] instanceof short[] row) {
            row[i] = (short) v;
        } else {
            ((int[]) sheets[s])[i] = v;
        }
    }

    int get(int s, int form, int i) {
        if (!in(s, 0, 3) || !in(form, 0, 2) || touch(s, form, i) != 1) {
            return Integer.MIN_VALUE;
        }
        return item(s, i);
    }

    int copy(int s, int i, int t, int j, int n) {
        if (!in(s, 0, 3) || !in(t, 0, 3)) {
            return BAD;
        }
        if (sheets[s] == null || sheets[t] == null) {
            return find(1);
        }
        if (sheets[s].getClass() != sheets[t].getClass()) {
            return find(4);
        }
        if (i < 0 || j < 0 || n < 0 || (long) i + n > length(s) || (long) j + n > length(t)) {
            return find(2);
        }
        int[] kept = new int[n];
        for (int k = 0; k < n; k++) {
            kept[k] = item(s, i + k);
        }
        for (int k = 0; k < n; k++) {
            store(t, j + k, kept[k]);
        }
        return 1;
    }

    int write(int s, int count, int start, int step) {
        if (!in(s, 0, 3) || noCount(count) || !in(start, 1, 99) || !in(step, 1, 20)) {
            return BAD;
        }
        if (sheets[s] == null) {
            return find(1);
        }
        int i = 0;
        while (i < length(s) && start + i * step <= 400) {
            store(s, i, counts.get(count).word(start + i * step));
            i++;
        }
        return i;
    }

    int count(int what) {
        int owed = 0;
        for (int a = 0; a < 8; a++) {
            for (int b = 0; b < 8; b++) {
                owed += debt(a, b);
            }
        }
        int there = 0;
        for (Object row : sheets) {
            there += row == null ? 0 : 1;
        }
        int[] all = {counts.size(), clues.size(), mat, persons.size(), lists.size(), speech.length(), owed, there, finding};
        return in(what, 0, 8) ? all[what] : BAD;
    }

    long digest() {
        List<Integer> parts = new ArrayList<>();
        for (int what = 0; what < 8; what++) {
            parts.add(count(what));
        }
        for (Count c : counts) {
            parts.addAll(List.of(c.t(), c.m, c.nose, c.begins));
            parts.addAll(c.words);
        }
        parts.add(solutions());
        for (int a = 0; a < persons.size(); a++) {
            for (int b = 0; b < persons.size(); b++) {
                parts.add(a == b ? 0 : owed(a, b));
            }
        }
        for (int l = 0; l < lists.size(); l++) {
            for (int what = 0; what < 5; what++) {
                parts.add(listIs(l, what));
            }
            parts.add(mother(l));
        }
        long h = 17;
        for (int part : parts) {
            h = 31 * h + part;
        }
        return h;
    }
}
