import java.util.Arrays;

/** Counting by places of the body: see the document's promises 1 to 52, named by number here. */
public final class ArmCounts {
    public static final int NONE = -1, BAD = -2, NOT = -3, FULL = -4;

    private static final int NULL = 1, INDEX = 2, CAST = 3, STORE = 4, SIZE = 5;
    private static final int LAST_WORD = 99, LAST_NUMBER = 400, LAST_MEN = 20;
    private static final int LAST_START = 99, LAST_STEP = 20, LAST_TALE = 30;
    private static final int BAD_SUM = -100000, NOT_SAID = -100001, BAD_ITEM = -2147483648;

    private final Sheets sheets;
    private final Counts counts;
    private final Riddle riddle;
    private final Debts debts;
    private final Lists lists;
    private final Speech text;

    /** Promise 1. */
    public ArmCounts() {
        sheets = new Sheets();
        counts = new Counts();
        riddle = new Riddle();
        debts = new Debts();
        lists = new Lists();
        text = new Speech();
    }

    private static boolean within(int v, int low, int high) {
        return v >= low && v <= high;
    }

    // ---- counts

    /** Promise 2. */
    public int countBy(int s, int m, boolean nose) {
        if (!sheets.named(s) || !within(m, 1, Counts.LAST_HALF)) {
            return BAD;
        }
        if (sheets.lost(s)) {
            return sheets.find(NULL);
        }
        int needed = nose ? m + 1 : m;
        // Here the promise's own order holds, INDEX ahead of NOT and FULL, not the one of "Terms".
        if (needed > sheets.sizeOf(s)) {
            return sheets.find(INDEX);
        }
        if (!sheets.unlikeWords(s, needed)) {
            return NOT;
        }
        return counts.isFull() ? FULL : counts.learn(sheets, s, m, nose);
    }

    /** Promise 3. */
    public int begins(int count, int hand) {
        if (!counts.has(count) || !within(hand, 0, 1)) {
            return BAD;
        }
        return counts.beginOn(count, hand);
    }

    /** Promise 4. */
    public int about(int count, int what) {
        if (!counts.has(count)) {
            return BAD;
        }
        switch (what) {
            case 0: return counts.places(count);
            case 1: return counts.halfOf(count);
            case 2: return counts.noseOf(count);
            case 3: return counts.firstHand(count);
            default: return BAD;
        }
    }

    /** Promise 5. */
    public int place(int count, int k, int what) {
        if (!counts.has(count) || !within(k, 1, counts.places(count))) {
            return BAD;
        }
        switch (what) {
            case 0: return counts.wordAt(count, k);
            case 1: return counts.sideAt(count, k);
            case 2: return counts.handAt(count, k);
            default: return BAD;
        }
    }

    /** Promise 6. */
    public int number(int count, int n, int what) {
        if (!counts.has(count) || !within(n, 1, LAST_NUMBER)) {
            return BAD;
        }
        int k = counts.placeOf(count, n);
        switch (what) {
            case 0: return counts.menOf(count, n);
            case 1: return k;
            case 2: return counts.wordAt(count, k);
            case 3: return counts.handAt(count, k);
            default: return BAD;
        }
    }

    /** Promise 7. */
    public int value(int count, int men, int k) {
        if (!counts.has(count) || !within(men, 0, LAST_MEN) || !within(k, 1, counts.places(count))) {
            return BAD;
        }
        return men * counts.places(count) + k;
    }

    // ---- meanings, unknowns

    private boolean isPoint(int count, int word, int hand, int men) {
        return counts.has(count) && within(word, 0, LAST_WORD)
            && within(hand, NONE, 2) && within(men, NONE, LAST_MEN);
    }

    /** Promise 8. */
    public int meanings(int count, int word, int hand, int men, int most) {
        if (!isPoint(count, word, hand, men) || !within(most, 1, LAST_NUMBER)) {
            return BAD;
        }
        int found = 0;
        for (int n = 1; n <= most; n++) {
            if (counts.means(count, word, hand, men, n)) {
                found++;
            }
        }
        return found;
    }

    /** Promise 9. */
    public int meaning(int count, int word, int hand, int men, int i) {
        if (!isPoint(count, word, hand, men) || i < 0) {
            return BAD;
        }
        int found = 0;
        for (int n = 1; n <= LAST_NUMBER; n++) {
            if (counts.means(count, word, hand, men, n)) {
                if (found == i) {
                    return n;
                }
                found++;
            }
        }
        return NONE;
    }

    /** Promise 10. */
    public int mat(int most) {
        return within(most, 1, Riddle.LAST_MAT) ? riddle.spread(most) : BAD;
    }

    /** Promise 11. */
    public int clue(int unknown, int count, int word, int hand, int men) {
        if (!Riddle.asks(unknown) || !isPoint(count, word, hand, men)) {
            return BAD;
        }
        return riddle.addPoint(unknown, count, word, hand, men);
    }

    /** Promise 12. */
    public int sum(int i, int j, int k) {
        if (!Riddle.asks(i) || !Riddle.asks(j) || !Riddle.asks(k)) {
            return BAD;
        }
        return riddle.add(Riddle.SUM, i, j, k);
    }

    /** Promise 13. */
    public int less(int i, int j) {
        if (!Riddle.asks(i) || !Riddle.asks(j) || i == j) {
            return BAD;
        }
        return riddle.add(Riddle.LESS, i, j, 0);
    }

    /** Promise 14. */
    public int mats(int i, int n, int m) {
        if (!Riddle.asks(i) || !within(m, 1, Riddle.LAST_MAT) || !within(n, 1, m)) {
            return BAD;
        }
        return riddle.add(Riddle.MATS, i, n, m);
    }

    /** Promise 15. */
    public int forget() {
        return riddle.empty();
    }

    /** Promise 16. */
    public int solutions() {
        return riddle.howMany(counts);
    }

    /** Promise 17. */
    public int solution(int i, int u) {
        return i < 0 || !Riddle.asks(u) ? BAD : riddle.pick(counts, i, u);
    }

    /** Promise 18. */
    public int sure(int u) {
        return Riddle.asks(u) ? riddle.certain(counts, u) : BAD;
    }

    /** Promise 19. */
    public int quarrel() {
        return riddle.leastWithout(counts);
    }

    // ---- trade

    /** Promise 20. */
    public int heard(int a, int b, int n) {
        if (!counts.has(a) || !counts.has(b) || !within(n, 1, LAST_NUMBER)) {
            return BAD;
        }
        return counts.heardAs(a, b, n);
    }

    /** Promise 21. */
    public int clear(int a, int b, int most) {
        if (!counts.has(a) || !counts.has(b) || !within(most, 1, LAST_NUMBER)) {
            return BAD;
        }
        int found = 0;
        for (int n = 1; n <= most; n++) {
            if (counts.heardAs(a, b, n) == n) {
                found++;
            }
        }
        return found;
    }

    /** Promise 22. */
    public int trap(int a, int b) {
        if (!counts.has(a) || !counts.has(b)) {
            return BAD;
        }
        for (int n = 1; n <= LAST_NUMBER; n++) {
            int h = counts.heardAs(a, b, n);
            if (h != NONE && h != n) {
                return n;
            }
        }
        return NONE;
    }

    /** Promise 23. */
    public int person(int count) {
        return counts.has(count) ? debts.welcome(count) : BAD;
    }

    /** Promise 24. */
    public int gift(int a, int b, int n) {
        if (!debts.areTwo(a, b) || !within(n, 1, LAST_NUMBER)) {
            return BAD;
        }
        return debts.give(a, b, n);
    }

    /** Promise 25. */
    public int owed(int a, int b) {
        return debts.areTwo(a, b) ? debts.left(a, b) : BAD;
    }

    /** Promise 26. */
    public int told(int a, int b) {
        if (!debts.areTwo(a, b)) {
            return BAD;
        }
        int n = debts.left(a, b);
        int count = debts.countOf(b);
        return n == 0 ? 0 : 100 * counts.menOf(count, n) + counts.placeOf(count, n);
    }

    /** Promise 27. */
    public int close() {
        return debts.closeAll();
    }

    /** Promise 28. */
    public int worth(int person) {
        return debts.has(person) ? debts.balance(person) : BAD_SUM;
    }

    // ---- lists

    /** Promise 29. */
    public int list(int s, int n, int year) {
        if (!sheets.named(s) || !within(n, 0, Lists.LENGTH) || !within(year, 0, Lists.LAST_YEAR)) {
            return BAD;
        }
        if (sheets.lost(s)) {
            return sheets.find(NULL);
        }
        // As in countBy: the promise's own order, INDEX ahead of FULL.
        if (n > sheets.sizeOf(s)) {
            return sheets.find(INDEX);
        }
        return lists.isFull() ? FULL : lists.keep(sheets, s, n, year);
    }

    /** Promise 30. */
    public int word(int list, int i) {
        if (!lists.has(list) || !within(i, 0, lists.lengthOf(list) - 1)) {
            return BAD;
        }
        return lists.item(list, i);
    }

    /** Promise 31. */
    public int listIs(int list, int what) {
        if (!lists.has(list)) {
            return BAD;
        }
        switch (what) {
            case 0: return lists.lengthOf(list);
            case 1: return lists.yearOf(list);
            case 2: return lists.gaps(list);
            case 3: return lists.ofTens(list);
            case 4: return lists.isShopped(list) ? 1 : 0;
            default: return BAD;
        }
    }

    /** Promise 32. */
    public int changes(int list, int other) {
        return lists.has(list) && lists.has(other) ? lists.distance(list, other) : BAD;
    }

    /** Promise 33. */
    public int mother(int list) {
        return lists.has(list) ? lists.motherOf(list) : BAD;
    }

    /** Promise 34. */
    public int mothers(int list) {
        return lists.has(list) ? lists.twoMothers(list) : BAD;
    }

    /** Promise 35. */
    public int strange(int list) {
        if (!lists.has(list)) {
            return BAD;
        }
        int two = lists.twoMothers(list);
        return two == NONE ? NONE : lists.unlikeBoth(list, two / 10, two % 10);
    }

    /** Promise 36. */
    public int age(int list) {
        return lists.has(list) ? lists.generations(list) : BAD;
    }

    /** Promise 37. */
    public int slips(int list, int other) {
        if (!lists.has(list) || !lists.has(other) || list == other) {
            return BAD;
        }
        return lists.sharedSlips(list, other);
    }

    // ---- tales, speech

    private boolean isTale(int s, int n) {
        return sheets.named(s) && within(n, 1, LAST_TALE);
    }

    /** Whether the items of a TALE are there: 0, or the FINDING that tells of it. */
    private int missing(int s, int n) {
        if (sheets.lost(s)) {
            return sheets.find(NULL);
        }
        return n > sheets.sizeOf(s) ? sheets.find(INDEX) : 0;
    }

    private boolean tells(int s, int n, int count, int start, int step) {
        if (start + (n - 1) * step > LAST_NUMBER) {
            return false;
        }
        for (int i = 0; i < n; i++) {
            int w = sheets.wordAt(s, i);
            if (w != NONE && w != counts.wordOf(count, start + i * step)) {
                return false;
            }
        }
        return true;
    }

    // All COUNT, START, STEP in the order of READINGS are WALKS, by one number each.

    private static int countOfWalk(int walk) {
        return walk / (LAST_START * LAST_STEP);
    }

    private static int startOfWalk(int walk) {
        return walk / LAST_STEP % LAST_START + 1;
    }

    private static int stepOfWalk(int walk) {
        return walk % LAST_STEP + 1;
    }

    private int allWalks() {
        return counts.size() * LAST_START * LAST_STEP;
    }

    private boolean isReading(int s, int n, int walk) {
        return tells(s, n, countOfWalk(walk), startOfWalk(walk), stepOfWalk(walk));
    }

    /** Promise 38. */
    public int readings(int s, int n) {
        if (!isTale(s, n)) {
            return BAD;
        }
        int finding = missing(s, n);
        if (finding != 0) {
            return finding;
        }
        int found = 0;
        int walks = allWalks();
        for (int walk = 0; walk < walks; walk++) {
            if (isReading(s, n, walk)) {
                found++;
            }
        }
        return found;
    }

    /** Promise 39. */
    public int reading(int s, int n, int i) {
        if (!isTale(s, n) || i < 0) {
            return BAD;
        }
        int finding = missing(s, n);
        if (finding != 0) {
            return finding;
        }
        int found = 0;
        int walks = allWalks();
        for (int walk = 0; walk < walks; walk++) {
            if (isReading(s, n, walk)) {
                if (found == i) {
                    return 100000 * countOfWalk(walk) + 1000 * stepOfWalk(walk) + startOfWalk(walk);
                }
                found++;
            }
        }
        return NONE;
    }

    /** Promise 40. */
    public int fits(int s, int n, int count, int start, int step) {
        if (!isTale(s, n) || !isWalk(count, start, step)) {
            return BAD;
        }
        int finding = missing(s, n);
        if (finding != 0) {
            return finding;
        }
        return tells(s, n, count, start, step) ? 1 : 0;
    }

    private boolean isWalk(int count, int start, int step) {
        return counts.has(count) && within(start, 1, LAST_START) && within(step, 1, LAST_STEP);
    }

    /** Promise 41. */
    public int type(int b) {
        return within(b, 0, 255) ? text.append(b) : BAD;
    }

    /** Promise 42. */
    public int hush() {
        return text.empty();
    }

    /** Promise 43. */
    public int fault() {
        text.read(1);
        return text.stop();
    }

    /** Promise 44. */
    public int speech(int count) {
        if (!counts.has(count)) {
            return BAD_SUM;
        }
        text.read(counts.places(count));
        return text.stop() != NONE || text.isBeyond() ? NOT_SAID : text.total();
    }

    // ---- sheets

    /** Promise 45. */
    public int sheet(int s, int form, int n) {
        if (!sheets.named(s) || !Sheets.isForm(form) || n > Sheets.LENGTH) {
            return BAD;
        }
        return n < 0 ? sheets.find(SIZE) : sheets.renew(s, form, n);
    }

    /** Promise 46. */
    public int lose(int s) {
        if (!sheets.named(s)) {
            return BAD;
        }
        return sheets.lost(s) ? sheets.find(NULL) : sheets.drop(s);
    }

    /** The FINDING of item i, treated as of a FORM; 0 without any. */
    private int touch(int s, int form, int i) {
        if (sheets.lost(s)) {
            return sheets.find(NULL);
        }
        if (sheets.formOf(s) != form) {
            return sheets.find(CAST);
        }
        return within(i, 0, sheets.sizeOf(s) - 1) ? 0 : sheets.find(INDEX);
    }

    /** Promise 47. */
    public int put(int s, int form, int i, int v) {
        if (!sheets.named(s) || !Sheets.isForm(form)) {
            return BAD;
        }
        int finding = touch(s, form, i);
        if (finding == 0) {
            sheets.store(s, i, v);
        }
        return finding == 0 ? 1 : finding;
    }

    /** Promise 48. */
    public int get(int s, int form, int i) {
        if (!sheets.named(s) || !Sheets.isForm(form) || touch(s, form, i) != 0) {
            return BAD_ITEM;
        }
        return sheets.item(s, i);
    }

    /** Promise 49. */
    public int copy(int s, int i, int t, int j, int n) {
        if (!sheets.named(s) || !sheets.named(t)) {
            return BAD;
        }
        if (sheets.lost(s) || sheets.lost(t)) {
            return sheets.find(NULL);
        }
        if (sheets.formOf(s) != sheets.formOf(t)) {
            return sheets.find(STORE);
        }
        return sheets.move(s, i, t, j, n) ? 1 : sheets.find(INDEX);
    }

    /** Promise 50. */
    public int write(int s, int count, int start, int step) {
        if (!sheets.named(s) || !isWalk(count, start, step)) {
            return BAD;
        }
        if (sheets.lost(s)) {
            return sheets.find(NULL);
        }
        int n = Math.min(sheets.sizeOf(s), (LAST_NUMBER - start) / step + 1);
        for (int i = 0; i < n; i++) {
            sheets.store(s, i, counts.wordOf(count, start + i * step));
        }
        return n;
    }

    /** Promise 51. */
    public int count(int what) {
        switch (what) {
            case 0: return counts.size();
            case 1: return riddle.size();
            case 2: return riddle.matSize();
            case 3: return debts.size();
            case 4: return lists.size();
            case 5: return text.size();
            case 6: return debts.whole();
            case 7: return sheets.inUse();
            case 8: return sheets.latest();
            default: return BAD;
        }
    }

    /** Promise 52. */
    public long digest() {
        long h = 17;
        for (int what = 0; what <= 7; what++) {
            h = 31 * h + count(what);
        }
        h = 31 * digestCounts(h) + riddle.howMany(counts);
        return digestLists(digestDebts(h));
    }

    private long digestCounts(long before) {
        long h = before;
        for (int c = 0; c < counts.size(); c++) {
            for (int what = 0; what <= 3; what++) {
                h = 31 * h + about(c, what);
            }
            for (int k = 1; k <= counts.places(c); k++) {
                h = 31 * h + counts.wordAt(c, k);
            }
        }
        return h;
    }

    private long digestDebts(long before) {
        long h = before;
        for (int a = 0; a < debts.size(); a++) {
            for (int b = 0; b < debts.size(); b++) {
                h = 31 * h + debts.left(a, b);
            }
        }
        return h;
    }

    private long digestLists(long before) {
        long h = before;
        for (int l = 0; l < lists.size(); l++) {
            for (int what = 0; what <= 4; what++) {
                h = 31 * h + listIs(l, what);
            }
            h = 31 * h + lists.motherOf(l);
        }
        return h;
    }

    /** SHEETS: rows that are made once and used again, whatever their FORM. */
    private static final class Sheets {
        static final int LENGTH = 60;
        private static final int ROOM = 4, LOST = -1;

        private final int[][] items = new int[ROOM][LENGTH];
        private final int[] forms = new int[ROOM];
        private final int[] sizes = new int[ROOM];
        private int finding;

        Sheets() {
            Arrays.fill(sizes, LOST);
        }

        static boolean isForm(int form) {
            return within(form, 0, 2);
        }

        boolean named(int s) {
            return s >= 0 && s < ROOM;
        }

        boolean lost(int s) {
            return !named(s) || sizes[s] == LOST;
        }

        int sizeOf(int s) {
            return lost(s) ? 0 : sizes[s];
        }

        int formOf(int s) {
            return lost(s) ? NONE : forms[s];
        }

        private boolean hasItem(int s, int i) {
            return named(s) && i >= 0 && i < sizes[s] && i < LENGTH;
        }

        int item(int s, int i) {
            return hasItem(s, i) ? items[s][i] : NONE;
        }

        int wordAt(int s, int i) {
            int v = item(s, i);
            return within(v, 0, LAST_WORD) ? v : NONE;
        }

        int find(int number) {
            finding = number;
            return -10 - number;
        }

        int latest() {
            return finding;
        }

        int inUse() {
            int found = 0;
            for (int s = 0; s < ROOM; s++) {
                if (!lost(s)) {
                    found++;
                }
            }
            return found;
        }

        int renew(int s, int form, int n) {
            if (!named(s) || !within(n, 0, LENGTH)) {
                return BAD;
            }
            Arrays.fill(items[s], 0);
            forms[s] = form;
            sizes[s] = n;
            return n;
        }

        int drop(int s) {
            if (lost(s)) {
                return BAD;
            }
            int had = sizes[s];
            sizes[s] = LOST;
            return had;
        }

        void store(int s, int i, int v) {
            if (hasItem(s, i)) {
                items[s][i] = cut(forms[s], v);
            }
        }

        private static int cut(int form, int v) {
            if (form == 0) {
                return (byte) v;
            }
            return form == 1 ? (short) v : v;
        }

        /** Whether there are so many items in both; if so, they are moved. */
        boolean move(int s, int i, int t, int j, int n) {
            if (i < 0 || j < 0 || n < 0 || n > sizeOf(s) - i || n > sizeOf(t) - j) {
                return false;
            }
            if (!lost(s) && !lost(t)) {
                System.arraycopy(items[s], i, items[t], j, n);
            }
            return true;
        }

        /** Whether the first n items are WORDS, no two alike. */
        boolean unlikeWords(int s, int n) {
            for (int i = 0; i < n; i++) {
                int w = wordAt(s, i);
                if (w == NONE) {
                    return false;
                }
                for (int j = 0; j < i; j++) {
                    if (wordAt(s, j) == w) {
                        return false;
                    }
                }
            }
            return true;
        }
    }

    /** COUNTS: the WORDS of each stand by PLACE, so both sides are written out. */
    private static final class Counts {
        static final int LAST_HALF = 20;
        private static final int ROOM = 6, LAST_PLACE = 41;

        private final int[][] words = new int[ROOM][LAST_PLACE];
        private final int[] halves = new int[ROOM];
        private final int[] noses = new int[ROOM];
        private final int[] firsts = new int[ROOM];
        private int size;

        Counts() {
            size = 0;
        }

        int size() {
            return size;
        }

        boolean isFull() {
            return size >= ROOM;
        }

        boolean has(int c) {
            return c >= 0 && c < size && c < ROOM;
        }

        int learn(Sheets sheets, int s, int m, boolean nose) {
            if (isFull() || !within(m, 1, LAST_HALF)) {
                return FULL;
            }
            int c = size;
            int last = nose ? 2 * m : 2 * m - 1;
            for (int i = 0; i < m; i++) {
                int w = sheets.wordAt(s, i);
                words[c][i] = w;
                words[c][last - i] = w;
            }
            if (nose) {
                words[c][m] = sheets.wordAt(s, m);
            }
            halves[c] = m;
            noses[c] = nose ? 1 : 0;
            size++;
            return c;
        }

        int beginOn(int c, int hand) {
            if (!has(c)) {
                return BAD;
            }
            int before = firsts[c];
            firsts[c] = hand;
            return before;
        }

        int halfOf(int c) {
            return has(c) ? halves[c] : 0;
        }

        int noseOf(int c) {
            return has(c) ? noses[c] : 0;
        }

        int firstHand(int c) {
            return has(c) ? firsts[c] : NONE;
        }

        int places(int c) {
            return has(c) ? 2 * halves[c] + noses[c] : 0;
        }

        int sideAt(int c, int k) {
            if (!has(c)) {
                return NONE;
            }
            if (k <= halves[c]) {
                return 0;
            }
            return noses[c] == 1 && k == halves[c] + 1 ? 2 : 1;
        }

        int handAt(int c, int k) {
            switch (sideAt(c, k)) {
                case 0: return firstHand(c);
                case 1: return 1 - firstHand(c);
                default: return 2;
            }
        }

        int wordAt(int c, int k) {
            return has(c) && k >= 1 && k <= places(c) && k <= LAST_PLACE ? words[c][k - 1] : NONE;
        }

        int menOf(int c, int n) {
            int t = places(c);
            return t > 0 ? (n - 1) / t : 0;
        }

        int placeOf(int c, int n) {
            int t = places(c);
            return t > 0 ? (n - 1) % t + 1 : 0;
        }

        int wordOf(int c, int n) {
            return wordAt(c, placeOf(c, n));
        }

        /** Whether a POINT may mean n. */
        boolean means(int c, int word, int hand, int men, int n) {
            int k = placeOf(c, n);
            return wordAt(c, k) == word
                && (hand == NONE || handAt(c, k) == hand)
                && (men == NONE || menOf(c, n) == men);
        }

        int heardAs(int a, int b, int n) {
            int said = placeOf(a, n);
            int word = wordAt(a, said);
            int hand = handAt(a, said);
            int t = places(b);
            for (int k = 1; k <= t; k++) {
                if (wordAt(b, k) == word && handAt(b, k) == hand) {
                    int h = menOf(a, n) * t + k;
                    return h <= LAST_NUMBER ? h : NONE;
                }
            }
            return NONE;
        }
    }

    /** UNKNOWNS and CLUES: sets of numbers are the bits of a long, bit n for number n. */
    private static final class Riddle {
        static final int LAST_MAT = 40;
        static final int POINT = 0, SUM = 1, LESS = 2, MATS = 3;
        private static final int ROOM = 8, UNKNOWNS = 3, LAST = 2;
        private static final long ANY = -1L, NO = 0L;

        // a row is the KIND and what was told, in the order in which the calls tell it
        private final int[][] clues = new int[ROOM][6];
        private final long[] allowed = new long[ROOM];
        private final long[] met = new long[UNKNOWNS];
        private final int[] now = new int[UNKNOWNS];
        private int size;
        private int mat;
        private int total;

        Riddle() {
            mat = 30;
        }

        static boolean asks(int u) {
            return u >= 0 && u < UNKNOWNS;
        }

        int size() {
            return size;
        }

        int matSize() {
            return mat;
        }

        int spread(int most) {
            int before = mat;
            mat = most;
            return before;
        }

        int empty() {
            int before = size;
            size = 0;
            return before;
        }

        int add(int kind, int a, int b, int c) {
            if (size >= ROOM) {
                return FULL;
            }
            clues[size][0] = kind;
            clues[size][1] = a;
            clues[size][2] = b;
            clues[size][3] = c;
            size++;
            return size;
        }

        int addPoint(int unknown, int count, int word, int hand, int men) {
            if (size >= ROOM) {
                return FULL;
            }
            clues[size][4] = hand;
            clues[size][5] = men;
            return add(POINT, unknown, count, word);
        }

        int howMany(Counts counts) {
            prepare(counts);
            search(allClues(), NONE);
            return total;
        }

        int pick(Counts counts, int i, int u) {
            prepare(counts);
            search(allClues(), i);
            return total > i && asks(u) ? now[u] : NONE;
        }

        int certain(Counts counts, int u) {
            prepare(counts);
            search(allClues(), NONE);
            if (total == 0 || !asks(u)) {
                return NOT;
            }
            return Long.bitCount(met[u]) == 1 ? nth(met[u], 0) : NONE;
        }

        int leastWithout(Counts counts) {
            prepare(counts);
            int all = allClues();
            if (hasSolution(all)) {
                return 0;
            }
            for (int n = 1; n < size; n++) {
                for (int set = 1; set < all; set++) {
                    if (Integer.bitCount(set) == n && !hasSolution(set)) {
                        return set;
                    }
                }
            }
            return all;
        }

        private int allClues() {
            return (1 << size) - 1;
        }

        private boolean hasSolution(int set) {
            search(set, 0);
            return total > 0;
        }

        /** A COUNT's HAND and the MAT may be others than when a CLUE was told, so its numbers are found anew. */
        private void prepare(Counts counts) {
            for (int c = 0; c < size && c < ROOM; c++) {
                allowed[c] = NO;
                for (int n = 1; n <= mat; n++) {
                    if (allows(clues[c], counts, n)) {
                        allowed[c] |= 1L << n;
                    }
                }
            }
        }

        private static boolean allows(int[] clue, Counts counts, int n) {
            if (clue[0] == POINT) {
                return counts.means(clue[2], clue[3], clue[4], clue[5], n);
            }
            return clue[0] != MATS || within(n, clue[2], clue[3]);
        }

        private static boolean inSet(int set, int c) {
            return ((set >> c) & 1) == 1;
        }

        private static boolean isAmong(long numbers, int n) {
            return ((numbers >> n) & 1L) == 1L;
        }

        /** Numbers of an UNKNOWN by those CLUES of a set that tell of it alone. */
        private long alone(int u, int set) {
            long numbers = (1L << (mat + 1)) - 2L;
            for (int c = 0; c < size && c < ROOM; c++) {
                boolean single = clues[c][0] == POINT || clues[c][0] == MATS;
                if (inSet(set, c) && single && clues[c][1] == u) {
                    numbers &= allowed[c];
                }
            }
            return numbers;
        }

        /**
         * Goes through the SOLUTIONS of a set of CLUES in order, all those of one pair of UNKNOWNS 0 and 1 at once;
         * stops at the wanted one, if there is such a one: then it stands in now.
         */
        private void search(int set, int wanted) {
            long first = alone(0, set);
            long second = alone(1, set);
            long third = alone(2, set);
            total = 0;
            Arrays.fill(met, NO);
            for (int x = 1; x <= mat; x++) {
                for (int y = 1; y <= mat && isAmong(first, x); y++) {
                    if (isAmong(second, y)) {
                        now[0] = x;
                        now[1] = y;
                        if (meet(narrow(third, set), wanted)) {
                            return;
                        }
                    }
                }
            }
        }

        /** Takes in the numbers of the last UNKNOWN beside those of now: whether the wanted SOLUTION is among them. */
        private boolean meet(long numbers, int wanted) {
            if (numbers == NO) {
                return false;
            }
            int before = total;
            total += Long.bitCount(numbers);
            met[0] |= 1L << now[0];
            met[1] |= 1L << now[1];
            met[2] |= numbers;
            if (wanted < 0 || total <= wanted) {
                return false;
            }
            now[LAST] = nth(numbers, wanted - before);
            return true;
        }

        private static int nth(long numbers, int i) {
            int ahead = 0;
            for (int n = 1; n <= LAST_MAT; n++) {
                if (isAmong(numbers, n)) {
                    if (ahead == i) {
                        return n;
                    }
                    ahead++;
                }
            }
            return NONE;
        }

        /** Those of the last UNKNOWN's numbers by which the SUMS and LESSES of a set hold. */
        private long narrow(long numbers, int set) {
            long left = numbers;
            for (int c = 0; c < size && c < ROOM && left != NO; c++) {
                if (inSet(set, c)) {
                    if (clues[c][0] == SUM) {
                        left &= bySum(clues[c][1], clues[c][2], clues[c][3]);
                    } else if (clues[c][0] == LESS) {
                        left &= byLess(clues[c][1], clues[c][2]);
                    }
                }
            }
            return left;
        }

        /** The number of an UNKNOWN as it is now, the last one aside. */
        private int known(int u) {
            return u >= 0 && u < LAST ? now[u] : 0;
        }

        private static int isLast(int u) {
            return u == LAST ? 1 : 0;
        }

        private long bySum(int i, int j, int k) {
            int times = isLast(i) + isLast(j) - isLast(k);
            int rest = known(k) - known(i) - known(j);
            if (times == 0) {
                return rest == 0 ? ANY : NO;
            }
            if (rest % times != 0) {
                return NO;
            }
            int n = rest / times;
            return within(n, 1, LAST_MAT) ? 1L << n : NO;
        }

        private long byLess(int i, int j) {
            if (j == LAST) {
                return ANY << (known(i) + 1);
            }
            if (i == LAST) {
                return (1L << known(j)) - 1;
            }
            return known(i) < known(j) ? ANY : NO;
        }
    }

    /** PERSONS and what is OWED: of two PERSONS one at most owes the other. */
    private static final class Debts {
        private static final int ROOM = 8, LEAST_ROW = 3, MOST_DEBTS = 28;

        private final int[][] owing = new int[ROOM][ROOM];
        private final int[] ways = new int[ROOM];
        private final int[] row = new int[ROOM];
        private int size;

        Debts() {
            size = 0;
        }

        int size() {
            return size;
        }

        boolean has(int p) {
            return p >= 0 && p < size && p < ROOM;
        }

        boolean areTwo(int a, int b) {
            return has(a) && has(b) && a != b;
        }

        int welcome(int count) {
            if (size >= ROOM) {
                return FULL;
            }
            ways[size] = count;
            size++;
            return size - 1;
        }

        int countOf(int p) {
            return has(p) ? ways[p] : NONE;
        }

        int left(int a, int b) {
            return has(a) && has(b) ? owing[a][b] : 0;
        }

        int give(int a, int b, int n) {
            if (!areTwo(a, b)) {
                return BAD;
            }
            int due = owing[b][a] - owing[a][b] + n;
            if (due > LAST_NUMBER) {
                return NOT;
            }
            owing[b][a] = Math.max(due, 0);
            owing[a][b] = Math.max(-due, 0);
            return owing[b][a];
        }

        int balance(int p) {
            int sum = 0;
            for (int q = 0; q < size; q++) {
                sum += left(q, p) - left(p, q);
            }
            return sum;
        }

        int whole() {
            int sum = 0;
            for (int a = 0; a < size; a++) {
                for (int b = 0; b < size; b++) {
                    sum += left(a, b);
                }
            }
            return sum;
        }

        /** Each closing ends one debt at least and makes none, so there are no more closings than debts. */
        int closeAll() {
            for (int closed = 0; closed <= MOST_DEBTS; closed++) {
                int length = findRow();
                if (length == 0) {
                    return closed;
                }
                takeOff(length);
            }
            return MOST_DEBTS;
        }

        private int findRow() {
            for (int length = LEAST_ROW; length <= size; length++) {
                for (int p = 0; p < size; p++) {
                    row[0] = p;
                    if (goOn(1, length)) {
                        return length;
                    }
                }
            }
            return 0;
        }

        /** Whether a row that has so many persons can go on to its length, all later ones being above the first. */
        private boolean goOn(int depth, int length) {
            if (depth < 1 || depth > ROOM) {
                return false;
            }
            int last = row[depth - 1];
            if (depth >= length) {
                return left(last, row[0]) > 0;
            }
            for (int p = row[0] + 1; p < size; p++) {
                if (left(last, p) > 0 && !inRow(p, depth) && goOnWith(p, depth, length)) {
                    return true;
                }
            }
            return false;
        }

        private boolean goOnWith(int p, int depth, int length) {
            if (depth < 0 || depth >= ROOM) {
                return false;
            }
            row[depth] = p;
            return goOn(depth + 1, length);
        }

        private boolean inRow(int p, int depth) {
            for (int i = 0; i < depth && i < ROOM; i++) {
                if (row[i] == p) {
                    return true;
                }
            }
            return false;
        }

        private void takeOff(int length) {
            int least = LAST_NUMBER;
            for (int i = 0; i < length && i < ROOM; i++) {
                least = Math.min(least, left(row[i], nextOf(i, length)));
            }
            for (int i = 0; i < length && i < ROOM; i++) {
                lessen(row[i], nextOf(i, length), least);
            }
        }

        private int nextOf(int i, int length) {
            return i + 1 < length && i + 1 < ROOM ? row[i + 1] : row[0];
        }

        private void lessen(int a, int b, int n) {
            if (has(a) && has(b)) {
                owing[a][b] -= n;
            }
        }
    }

    /** LISTS of WORDS by YEARS. */
    private static final class Lists {
        static final int LENGTH = 30, LAST_YEAR = 3000;
        private static final int ROOM = 8, UNLIKE = 3, MOVED = 2, TEN = 10;

        private final int[][] words = new int[ROOM][LENGTH];
        private final int[] lengths = new int[ROOM];
        private final int[] years = new int[ROOM];
        private final int[] upper = new int[LENGTH + 1];
        private final int[] lower = new int[LENGTH + 1];
        private int size;

        Lists() {
            size = 0;
        }

        int size() {
            return size;
        }

        boolean isFull() {
            return size >= ROOM;
        }

        boolean has(int l) {
            return l >= 0 && l < size && l < ROOM;
        }

        int lengthOf(int l) {
            return has(l) ? lengths[l] : 0;
        }

        int yearOf(int l) {
            return has(l) ? years[l] : NONE;
        }

        int item(int l, int i) {
            return has(l) && i >= 0 && i < lengths[l] && i < LENGTH ? words[l][i] : NONE;
        }

        int keep(Sheets sheets, int s, int n, int year) {
            if (isFull() || !within(n, 0, LENGTH)) {
                return FULL;
            }
            for (int i = 0; i < n; i++) {
                words[size][i] = sheets.wordAt(s, i);
            }
            lengths[size] = n;
            years[size] = year;
            size++;
            return size - 1;
        }

        int gaps(int l) {
            int found = 0;
            for (int i = 0; i < lengthOf(l); i++) {
                if (item(l, i) == NONE) {
                    found++;
                }
            }
            return found;
        }

        private boolean couldBeOfTens(int l, int i) {
            return i >= TEN && item(l, i) != NONE && item(l, i % TEN) != NONE;
        }

        int ofTens(int l) {
            int found = 0;
            for (int i = TEN; i < lengthOf(l); i++) {
                if (couldBeOfTens(l, i) && item(l, i) == item(l, i % TEN)) {
                    found++;
                }
            }
            return found;
        }

        boolean isShopped(int l) {
            int could = 0;
            for (int i = TEN; i < lengthOf(l); i++) {
                if (couldBeOfTens(l, i)) {
                    could++;
                }
            }
            return could > 0 && 2 * ofTens(l) >= could;
        }

        /** CHANGES: row i of the usual table has what the first i items of the one cost to each start of the other. */
        int distance(int from, int to) {
            int width = Math.min(lengthOf(to), LENGTH);
            for (int j = 0; j <= width; j++) {
                upper[j] = MOVED * j;
            }
            for (int i = 1; i <= lengthOf(from); i++) {
                lower[0] = MOVED * i;
                for (int j = 1; j <= width; j++) {
                    int kept = upper[j - 1] + unlike(item(from, i - 1), item(to, j - 1));
                    lower[j] = Math.min(kept, MOVED + Math.min(upper[j], lower[j - 1]));
                }
                System.arraycopy(lower, 0, upper, 0, width + 1);
            }
            return upper[width];
        }

        private static int unlike(int one, int other) {
            return one == NONE || other == NONE || one == other ? 0 : UNLIKE;
        }

        int motherOf(int l) {
            int best = NONE;
            int least = 0;
            for (int m = 0; m < size; m++) {
                if (yearOf(m) < yearOf(l)) {
                    int cost = distance(m, l);
                    if (best == NONE || cost < least || (cost == least && yearOf(m) > yearOf(best))) {
                        best = m;
                        least = cost;
                    }
                }
            }
            return best;
        }

        /** A MOTHER has a lesser YEAR, so no LIST is met twice. */
        int generations(int l) {
            int at = l;
            for (int steps = 0; steps < ROOM; steps++) {
                at = motherOf(at);
                if (at == NONE) {
                    return steps;
                }
            }
            return ROOM;
        }

        private boolean couldBeOfTwo(int m, int l) {
            return yearOf(m) < yearOf(l) && lengthOf(m) == lengthOf(l);
        }

        int twoMothers(int l) {
            int best = NONE;
            int least = 0;
            for (int a = 0; a < size; a++) {
                for (int b = a + 1; b < size && couldBeOfTwo(a, l); b++) {
                    if (couldBeOfTwo(b, l)) {
                        int cost = unlikeBoth(l, a, b);
                        if (best == NONE || cost < least) {
                            best = 10 * a + b;
                            least = cost;
                        }
                    }
                }
            }
            return best;
        }

        int unlikeBoth(int l, int a, int b) {
            int found = 0;
            for (int i = 0; i < lengthOf(l); i++) {
                int w = item(l, i);
                if (unlike(w, item(a, i)) != 0 && unlike(w, item(b, i)) != 0) {
                    found++;
                }
            }
            return found;
        }

        int sharedSlips(int one, int other) {
            int found = 0;
            int before = Math.min(yearOf(one), yearOf(other));
            for (int i = 0; i < lengthOf(one); i++) {
                int w = item(one, i);
                if (w != NONE && w == item(other, i) && !wasSaid(w, i, before)) {
                    found++;
                }
            }
            return found;
        }

        private boolean wasSaid(int w, int i, int before) {
            for (int l = 0; l < size; l++) {
                if (yearOf(l) < before && item(l, i) == w) {
                    return true;
                }
            }
            return false;
        }
    }

    /** SPEECH: bytes, and what reading them has found. */
    private static final class Speech {
        private static final int ROOM = 60;

        private final int[] bytes = new int[ROOM];
        private int size;
        private int at;
        private int stop;
        private int total;
        private boolean beyond;

        Speech() {
            stop = NONE;
        }

        int size() {
            return size;
        }

        int append(int b) {
            if (size >= ROOM) {
                return FULL;
            }
            bytes[size] = b;
            size++;
            return size;
        }

        int empty() {
            int had = size;
            size = 0;
            return had;
        }

        /** The FAULT that reading has found; NONE. */
        int stop() {
            return stop;
        }

        boolean isBeyond() {
            return beyond;
        }

        int total() {
            return total;
        }

        /** Reads the text by a COUNT of t PLACES. */
        void read(int t) {
            at = 0;
            stop = NONE;
            total = 0;
            beyond = false;
            int sign = 1;
            for (int numbers = 0; numbers < ROOM; numbers++) {
                if (!readNumber(t, sign) || at >= size) {
                    return;
                }
                if (!isNext('+') && !isNext('-')) {
                    stop = at;
                    return;
                }
                sign = isNext('+') ? 1 : -1;
                at++;
            }
        }

        private boolean readNumber(int t, int sign) {
            int men = 0;
            if (isNext('m')) {
                at++;
                men = readFigures();
            }
            if (men == NONE || !isNext('p')) {
                stop = at;
                return false;
            }
            at++;
            int from = at;
            int place = readFigures();
            if (place == NONE || place == 0) {
                stop = from;
                return false;
            }
            total += sign * (men * t + place);
            beyond = beyond || place > t;
            return true;
        }

        private boolean isNext(char c) {
            return at >= 0 && at < size && at < ROOM && bytes[at] == c;
        }

        private int figureHere() {
            return at >= 0 && at < size && at < ROOM && within(bytes[at], '0', '9') ? bytes[at] - '0' : NONE;
        }

        /** One figure or two; NONE: there is not one. */
        private int readFigures() {
            int tens = figureHere();
            if (tens == NONE) {
                return NONE;
            }
            at++;
            int ones = figureHere();
            if (ones == NONE) {
                return tens;
            }
            at++;
            return 10 * tens + ones;
        }
    }
}
