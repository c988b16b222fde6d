import java.lang.reflect.Method;
import java.lang.reflect.Modifier;
import java.util.ArrayList;
import java.util.Arrays;
import java.util.HashMap;
import java.util.List;
import java.util.Map;
import java.util.Random;

/** All promises: runs of many calls, the answers of each being those of the plain model. */
public final class ModelTest {
    private static final int RUNS = 300;
    /** So few that the last thing done in a run still ends within the calls that the document gives to an object. */
    private static final int CALLS = 400;
    private static final int[] ODD = {-2, -1, 0, 1, 2, 99, 100, 400, 401, Integer.MAX_VALUE, Integer.MIN_VALUE};
    private static final String[] PHRASES = {
        "p1", "p3", "p12", "p05", "m1p2", "m20p4", "m0p1", "+", "-", "+", "-", "p0", "m", "x", "p1+m1p2-p3",
    };
    private static final Due due = new Due("ModelTest");
    private static final Map<String, Method> calls = new HashMap<>();
    private static final Map<String, Method> models = new HashMap<>();

    private final int seed;
    private final Random random;
    private final ArmCounts x = new ArmCounts();
    private final Plain plain = new Plain();
    /** Some runs have few WORDS and one FORM, so that what calls do meets more often. */
    private final int words;
    private final int forms;
    private int made;

    private ModelTest(int seed) {
        this.seed = seed;
        random = new Random(seed);
        words = new int[] {6, 25, 100}[seed % 3];
        forms = seed % 2 == 0 ? 1 : 3;
    }

    public static void main(String[] args) throws ReflectiveOperationException {
        gather();
        for (int seed = 0; seed < RUNS && due.wrong() == 0; seed++) {
            new ModelTest(seed).run();
        }
        due.end();
    }

    private static void gather() throws NoSuchMethodException {
        for (Method method : ArmCounts.class.getDeclaredMethods()) {
            if (Modifier.isPublic(method.getModifiers())) {
                Method model = Plain.class.getDeclaredMethod(method.getName(), method.getParameterTypes());
                model.setAccessible(true);
                calls.put(method.getName(), method);
                models.put(method.getName(), model);
            }
        }
        due.is("methods of the face", calls.size(), 51);
    }

    private void run() throws ReflectiveOperationException {
        List<String> names = new ArrayList<>(calls.keySet());
        names.sort(null);
        for (int i = seed % 5; i > 0; i--) {
            newCount();
            newWords();
        }
        newGifts();
        while (made < CALLS) {
            switch (random.nextInt(40)) {
                case 0: newCount(); break;
                case 1: newWords(); break;
                case 2: newGifts(); break;
                case 3: newTale(); break;
                case 4: newSpeech(); break;
                default: some(names.get(random.nextInt(names.size())));
            }
        }
        call("digest");
        call("count", 8);
        due.holds("run " + seed + " has no more calls than an object is given", made <= Face.CALLS);
    }

    private static boolean isFinding(long answer) {
        return answer == Integer.MIN_VALUE || (answer <= -11 && answer >= -15);
    }

    private void call(String name, Object... arguments) throws ReflectiveOperationException {
        made++;
        Number want = (Number) models.get(name).invoke(plain, arguments);
        Number got = (Number) calls.get(name).invoke(x, arguments);
        String told = "run " + seed + ", call " + made + ": " + name + Arrays.toString(arguments);
        due.is(told, got.longValue(), want.longValue());
        if (isFinding(want.longValue())) {
            made++;
            due.is(told + ", then count(8)", x.count(8), plain.count(8));
        }
    }

    private void newCount() throws ReflectiveOperationException {
        int m = 1 + random.nextInt(random.nextInt(3) == 0 ? 20 : Math.min(5, words - 1));
        List<Integer> all = new ArrayList<>();
        for (int w = 0; w < Math.max(words, m + 1); w++) {
            all.add(w);
        }
        java.util.Collections.shuffle(all, random);
        call("sheet", 0, 2, m + 1);
        for (int i = 0; i <= m; i++) {
            call("put", 0, 2, i, all.get(i));
        }
        call("countBy", 0, m, random.nextBoolean());
        if (plain.count(0) > 0) {
            call("person", random.nextInt(plain.count(0)));
            call("begins", random.nextInt(plain.count(0)), random.nextInt(2));
        }
    }

    /** A LIST of a few WORDS, mostly as long as others. */
    private void newWords() throws ReflectiveOperationException {
        int n = random.nextInt(3) == 0 ? random.nextInt(31) : seed % 4 == 0 ? 14 : 5;
        call("sheet", 1, 2, n);
        for (int i = 0; i < n; i++) {
            call("put", 1, 2, i, random.nextInt(5) - 1);
        }
        call("list", 1, n, random.nextInt(random.nextInt(2) == 0 ? 5 : 3001));
    }

    private void newGifts() throws ReflectiveOperationException {
        for (int i = 0; i < 6 && plain.count(3) > 1; i++) {
            call("gift", random.nextInt(plain.count(3)), random.nextInt(plain.count(3)), 1 + random.nextInt(random.nextInt(5) == 0 ? 400 : 30));
        }
        if (random.nextInt(3) == 0) {
            call("close");
        }
    }

    private void newTale() throws ReflectiveOperationException {
        int n = 1 + random.nextInt(12);
        call("sheet", 2, random.nextInt(3), n);
        some("write");
        call("put", 2, 2, random.nextInt(n), -1);
        call("readings", 2, n);
        call("reading", 2, n, random.nextInt(50));
        some("fits");
    }

    private void newSpeech() throws ReflectiveOperationException {
        call("hush");
        for (int i = random.nextInt(6); i >= 0; i--) {
            String phrase = PHRASES[random.nextInt(PHRASES.length)];
            for (int j = 0; j < phrase.length(); j++) {
                call("type", (int) phrase.charAt(j));
            }
            call("fault");
            some("speech");
        }
    }

    private void some(String name) throws ReflectiveOperationException {
        Class<?>[] types = calls.get(name).getParameterTypes();
        int[] tops = tops(name, types.length);
        Object[] arguments = new Object[types.length];
        for (int i = 0; i < types.length; i++) {
            if (types[i] == boolean.class) {
                arguments[i] = random.nextBoolean();
            } else if (random.nextInt(50) == 0) {
                arguments[i] = ODD[random.nextInt(ODD.length)];
            } else {
                int least = isHandOrMen(name, i) ? -1 : 0;
                arguments[i] = least + random.nextInt(tops[i] + 1 - least);
            }
        }
        call(name, arguments);
    }

    private static boolean isHandOrMen(String name, int i) {
        return name.equals("clue") ? i >= 3 : name.startsWith("meaning") && (i == 2 || i == 3);
    }

    private int either(int one, int other) {
        return random.nextBoolean() ? one : other;
    }

    /** The largest argument that is mostly given, one by one. */
    private int[] tops(String name, int n) {
        int c = random.nextInt(8) == 0 ? 6 : Math.max(0, plain.count(0) - 1);
        int p = random.nextInt(8) == 0 ? 8 : Math.max(0, plain.count(3) - 1);
        int l = random.nextInt(8) == 0 ? 8 : Math.max(0, plain.count(4) - 1);
        switch (name) {
            case "countBy": return new int[] {3, either(20, 4), 0};
            case "begins": return new int[] {c, 1};
            case "about": return new int[] {c, 4};
            case "place": return new int[] {c, either(10, 41), 3};
            case "number": return new int[] {c, 401, 4};
            case "value": return new int[] {c, 21, either(10, 41)};
            case "meanings": return new int[] {c, words - 1, 2, 5, 401};
            case "meaning": return new int[] {c, words - 1, 2, 20, either(2, 50)};
            case "mat": return new int[] {either(40, 12)};
            case "clue": return new int[] {2, c, words - 1, 2, 3};
            case "sum": return new int[] {2, 2, 2};
            case "less": return new int[] {2, 2};
            case "mats": return new int[] {2, 10, 40};
            case "solution": return new int[] {either(10, 1000), 2};
            case "sure": return new int[] {2};
            case "heard": return new int[] {c, c, 401};
            case "clear": return new int[] {c, c, 400};
            case "trap": return new int[] {c, c};
            case "person": return new int[] {c};
            case "gift": return new int[] {p, p, either(400, 30)};
            case "owed": case "told": return new int[] {p, p};
            case "worth": return new int[] {p};
            case "list": return new int[] {3, either(30, 5), either(5, 3000)};
            case "word": return new int[] {l, 12};
            case "listIs": return new int[] {l, 5};
            case "changes": case "slips": return new int[] {l, l};
            case "mother": case "mothers": case "strange": case "age": return new int[] {l};
            case "readings": return new int[] {3, 5};
            case "reading": return new int[] {3, 5, either(10, 3000)};
            case "fits": return new int[] {2, 4, c, 10, 10};
            case "speech": return new int[] {c};
            case "type": return new int[] {255};
            case "sheet": return new int[] {3, forms - 1, either(60, 12)};
            case "put": return new int[] {3, forms - 1, 12, either(70000, words - 1)};
            case "get": return new int[] {3, either(2, forms - 1), 15};
            case "copy": return new int[] {3, 8, 3, 8, 6};
            case "write": return new int[] {3, c, 99, 20};
            case "count": return new int[] {9};
            default:
                int[] all = new int[n];
                Arrays.fill(all, 3);
                return all;
        }
    }
}
