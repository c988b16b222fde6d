import java.lang.reflect.Method;
import java.lang.reflect.Modifier;
import java.util.HashMap;
import java.util.Map;

/** An object whose calls are made by name, no more of them than the document gives to one object. */
final class Face {
    static final int CALLS = 512;
    private static final Map<String, Method> METHODS = methods();

    private final ArmCounts x = new ArmCounts();
    private int made;

    static Map<String, Method> methods() {
        Map<String, Method> found = new HashMap<>();
        for (Method method : ArmCounts.class.getDeclaredMethods()) {
            if (Modifier.isPublic(method.getModifiers())) {
                found.put(method.getName(), method);
            }
        }
        return found;
    }

    long call(String name, Object... arguments) {
        made++;
        if (made > CALLS) {
            throw new IllegalStateException("a test makes more calls than the document gives to an object");
        }
        try {
            return ((Number) METHODS.get(name).invoke(x, arguments)).longValue();
        } catch (ReflectiveOperationException e) {
            throw new IllegalStateException(name, e);
        }
    }

    /** Makes a SHEET of a FORM with these items. */
    void row(int s, int form, int... items) {
        call("sheet", s, form, items.length);
        for (int i = 0; i < items.length; i++) {
            call("put", s, form, i, items[i]);
        }
    }

    void say(String text) {
        for (int i = 0; i < text.length(); i++) {
            call("type", (int) text.charAt(i));
        }
    }

    /** What a call answers that is BAD. */
    static long bad(String name) {
        switch (name) {
            case "worth": case "speech": return -100000;
            case "get": return Integer.MIN_VALUE;
            default: return ArmCounts.BAD;
        }
    }
}
