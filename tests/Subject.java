import java.lang.reflect.Method;
import java.lang.reflect.Modifier;
import java.util.HashMap;
import java.util.Map;

/** An object of the class, asked by calls as they are written: "nest(0, 1, MAX)". */
final class Subject {
    /** The document promises nothing beyond these. */
    static final int CALLS = 512;
    /** What no call answers: it threw. */
    static final int THREW = -987654321;
    private static final Map<String, Method> METHODS = new HashMap<>();

    static {
        for (Method m : NestedPoints.class.getDeclaredMethods()) {
            if (Modifier.isPublic(m.getModifiers())) {
                METHODS.put(m.getName(), m);
            }
        }
    }

    private final NestedPoints x = new NestedPoints();
    private int calls = 0;

    int ask(String call) {
        int open = call.indexOf('(');
        Method m = METHODS.get(call.substring(0, open));
        String inside = call.substring(open + 1, call.length() - 1);
        String[] words = inside.isBlank() ? new String[0] : inside.split(",");
        Class<?>[] types = m.getParameterTypes();
        if (words.length != types.length) {
            throw new IllegalArgumentException(call);
        }
        Object[] args = new Object[words.length];
        for (int i = 0; i < args.length; i++) {
            args[i] = number(words[i].strip(), types[i] == long.class);
        }
        calls++;
        if (calls > CALLS) {
            throw new IllegalStateException("the test itself uses an object for more than " + CALLS + " calls: " + call);
        }
        try {
            return (Integer) m.invoke(x, args);
        } catch (ReflectiveOperationException e) {
            System.out.println(call + " threw " + e.getCause());
            return THREW;
        }
    }

    int calls() {
        return calls;
    }

    private static Object number(String word, boolean isLong) {
        if (isLong) {
            return word.startsWith("0x") ? Long.parseUnsignedLong(word.substring(2), 16) : (Object) Long.parseLong(word);
        }
        return word.equals("MIN") ? Integer.MIN_VALUE : word.equals("MAX") ? Integer.MAX_VALUE : (Object) Integer.parseInt(word);
    }
}
