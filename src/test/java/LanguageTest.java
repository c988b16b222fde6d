import java.io.IOException;
import java.lang.reflect.Field;
import java.lang.reflect.Method;
import java.lang.reflect.Modifier;
import java.nio.file.Files;
import java.nio.file.Path;
import java.util.List;
import java.util.Set;
import java.util.TreeSet;
import java.util.regex.Matcher;
import java.util.regex.Pattern;

/** The document's face, and those rules of ../shared/LANGUAGE.md that can be seen from the text and by reflection. */
public final class LanguageTest {
    private static final Due due = new Due("LanguageTest");
    private static final Path PROGRAM = Path.of("src/main/java/ArmCounts.java");
    private static final Path DOCUMENT = Path.of("../shared/DOC.md");

    public static void main(String[] args) throws IOException {
        face();
        members();
        inside();
        text(Files.readString(PROGRAM));
        lengths(Files.readAllLines(PROGRAM));
        due.end();
    }

    private static void face() throws IOException {
        Set<String> want = new TreeSet<>();
        Matcher line = Pattern.compile("public (int|long) (\\w+)\\((.*)\\);").matcher(Files.readString(DOCUMENT));
        while (line.find()) {
            want.add(line.group(1) + " " + line.group(2) + "(" + line.group(3).replaceAll(" \\w+(,|$)", "$1") + ")");
        }
        Set<String> got = new TreeSet<>();
        for (Method method : ArmCounts.class.getDeclaredMethods()) {
            if (Modifier.isPublic(method.getModifiers())) {
                StringBuilder told = new StringBuilder(method.getReturnType() + " " + method.getName() + "(");
                for (Class<?> type : method.getParameterTypes()) {
                    told.append(told.charAt(told.length() - 1) == '(' ? "" : ", ").append(type);
                }
                got.add(told.append(")").toString());
            }
        }
        due.is("methods", got.size(), 51);
        due.holds("the document's face: " + want + " and " + got, want.equals(got));
        due.holds("public and final", Modifier.isPublic(ArmCounts.class.getModifiers()) && Modifier.isFinal(ArmCounts.class.getModifiers()));
    }

    private static void members() {
        Set<String> constants = new TreeSet<>();
        for (Field field : ArmCounts.class.getDeclaredFields()) {
            if (Modifier.isPublic(field.getModifiers())) {
                constants.add(field.getName());
            } else {
                due.holds(field + " is private", Modifier.isPrivate(field.getModifiers()));
            }
        }
        due.holds("constants " + constants, constants.equals(Set.of("NONE", "BAD", "NOT", "FULL")));
        for (Method method : ArmCounts.class.getDeclaredMethods()) {
            int modifiers = method.getModifiers();
            due.holds(method + " is public or private", Modifier.isPublic(modifiers) || Modifier.isPrivate(modifiers));
        }
        due.is("constructors", ArmCounts.class.getDeclaredConstructors().length, 1);
    }

    private static void inside() {
        Set<String> names = new TreeSet<>();
        for (Method method : ArmCounts.class.getDeclaredMethods()) {
            if (Modifier.isPublic(method.getModifiers())) {
                due.holds("one " + method.getName(), names.add(method.getName()));
            }
        }
        Class<?>[] classes = ArmCounts.class.getDeclaredClasses();
        due.holds("at most twelve classes", classes.length < 12);
        for (Class<?> inner : classes) {
            due.holds(inner + " is static", Modifier.isStatic(inner.getModifiers()));
            due.holds(inner + " has at most twenty fields", variables(inner) <= 20);
            for (Method method : inner.getDeclaredMethods()) {
                due.holds(method + " bears a name of its own", !names.contains(method.getName()));
                due.holds(method + " takes at most seven", method.getParameterCount() <= 7);
            }
            for (Field field : inner.getDeclaredFields()) {
                int modifiers = field.getModifiers();
                due.holds(field + " is no static state", !Modifier.isStatic(modifiers) || Modifier.isFinal(modifiers));
            }
        }
        for (Method method : ArmCounts.class.getDeclaredMethods()) {
            boolean named = names.contains(method.getName());
            due.holds(method + " bears a name of its own", named == Modifier.isPublic(method.getModifiers()));
        }
    }

    private static int variables(Class<?> inner) {
        int found = 0;
        for (Field field : inner.getDeclaredFields()) {
            found += Modifier.isStatic(field.getModifiers()) ? 0 : 1;
        }
        return found;
    }

    private static void text(String whole) {
        String code = whole.replaceAll("(?s)/\\*.*?\\*/", " ").replaceAll("//[^\n]*", " ");
        for (String word : List.of("throw", "throws", "try", "catch", "finally", "synchronized", "assert", "package",
            "protected", "var", "Object", "Exact", "System.out", "Random", "Thread", "this", "super", "extends")) {
            due.holds("no " + word, !Pattern.compile("\\b" + Pattern.quote(word) + "\\b").matcher(code).find());
        }
        for (String sign : List.of("->", "::", "\"", "Exact(", "@")) {
            due.holds("no " + sign, !code.contains(sign));
        }
        Matcher imported = Pattern.compile("import ([^;]*);").matcher(code);
        while (imported.find()) {
            due.holds("import " + imported.group(1), imported.group(1).matches("java.util.(Arrays|ArrayList|List)"));
        }
        due.holds("signs of the text are plain", whole.chars().allMatch(c -> c < 128));
    }

    /** A method's lines stand between one that opens it and a closing brace at the same depth. */
    private static void lengths(List<String> lines) {
        for (int i = 0; i < lines.size(); i++) {
            Matcher opens = Pattern.compile("^( {4}| {8})\\w[\\w\\[\\] ]+\\(.*\\) \\{$").matcher(lines.get(i));
            if (opens.matches()) {
                int end = i;
                while (end < lines.size() && !lines.get(end).equals(opens.group(1) + "}")) {
                    end++;
                }
                due.holds("line " + (i + 1) + " opens at most sixty lines", end - i <= 60);
            }
        }
    }
}
