import java.lang.reflect.Method;
import java.util.ArrayList;
import java.util.HashMap;
import java.util.List;
import java.util.Map;

/** One object, and the calls made of it, told as text: "pay(0, 13)". It takes no more than the document allows. */
final class Calls {
    static final int MOST = 512;
    private static final Map<String, Method> FACE = face();
    private final RidCoppers object = new RidCoppers();
    private final List<String> made = new ArrayList<>();

    long answer(String call) {
        if (made.size() == MOST) {
            throw new IllegalStateException("a test makes more than " + MOST + " calls");
        }
        made.add(call);
        int open = call.indexOf('(');
        Method method = FACE.get(call.substring(0, open));
        String inside = call.substring(open + 1, call.length() - 1);
        String[] parts = inside.isEmpty() ? new String[0] : inside.split(", ");
        Class<?>[] types = method.getParameterTypes();
        Object[] args = new Object[parts.length];
        for (int a = 0; a < parts.length; a++) {
            args[a] = types[a] == long.class ? (Object) Long.parseLong(parts[a]) : (Object) number(parts[a]);
        }
        try {
            return ((Number) method.invoke(object, args)).longValue();
        } catch (ReflectiveOperationException e) {
            throw new IllegalStateException(call, e);
        }
    }

    private static int number(String part) {
        switch (part) {
            case "MIN": return Integer.MIN_VALUE;
            case "MAX": return Integer.MAX_VALUE;
            default: return Integer.parseInt(part);
        }
    }

    int count() {
        return made.size();
    }

    /** Another object, of which the same calls have been made. */
    Calls again() {
        Calls other = new Calls();
        for (String call : made) {
            other.answer(call);
        }
        return other;
    }

    private static Map<String, Method> face() {
        Map<String, Method> face = new HashMap<>();
        for (Method method : RidCoppers.class.getDeclaredMethods()) {
            face.put(method.getName(), method);
        }
        return face;
    }
}
