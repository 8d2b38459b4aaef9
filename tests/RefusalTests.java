import java.lang.reflect.InvocationTargetException;
import java.lang.reflect.Method;
import java.lang.reflect.Modifier;
import java.util.ArrayList;
import java.util.Comparator;
import java.util.List;
import java.util.Random;
import java.util.Set;

/**
 * Random calls with any numbers. Nothing throws; and a twin that is spared the refused calls answers the others
 * alike, so that refused calls change nothing.
 */
public final class RefusalTests {
    /** Calls that change something (or nothing) whatever they answer: below 0 is no refusal there. */
    private static final Set<String> ANY_ANSWER = Set.of("seed", "act", "item", "space");
    private static final int CALLS = 440;
    private static final int[] EDGES = {-1, -2, 6, 8, 9, 10, 11, 12, 15, 16, 31, 40, 41, 63, 64, 100, 101, 255, 256, 511, 512,
        4095, 4096, 65535, 1 << 20, 1 << 24, Integer.MAX_VALUE, Integer.MIN_VALUE, -1234567};
    private static final Random RANDOM = new Random(47);

    public static void main(String[] args) throws Exception {
        List<Method> calls = new ArrayList<>();
        for (Method m : NestedPoints.class.getDeclaredMethods()) {
            if (Modifier.isPublic(m.getModifiers())) {
                calls.add(m);
            }
        }
        calls.sort(Comparator.comparing(Method::getName));
        Check.due("the calls of the face", calls.size(), 46);
        int refused = 0;
        for (int run = 0; run < 1500; run++) {
            refused += aRun(calls, run);
        }
        Check.due("many calls were refused", refused > 100000 ? 1 : 0, 1);
        Check.due("many calls were not", refused < 1500 * CALLS - 100000 ? 1 : 0, 1);
        Check.end("RefusalTests");
    }

    private static int aRun(List<Method> calls, int run) throws Exception {
        NestedPoints all = new NestedPoints();
        NestedPoints spared = new NestedPoints();
        int refused = 0;
        StringBuilder story = new StringBuilder();
        for (int i = 0; i < CALLS; i++) {
            Method m = calls.get(RANDOM.nextInt(calls.size()));
            Object[] args = arguments(m);
            int answer = (Integer) call(all, m, args);
            story.setLength(0);
            story.append("run ").append(run).append(" call ").append(i).append(" ").append(m.getName());
            boolean isRefused = answer < 0 && !(ANY_ANSWER.contains(m.getName()) && !(m.getName().equals("space") && answer == -1));
            if (isRefused) {
                refused++;
            } else {
                Check.due(story.toString(), answer, (Integer) call(spared, m, args));
            }
        }
        Check.due("run " + run + ": the state", told(all).equals(told(spared)) ? 1 : 0, 1);
        return refused;
    }

    private static Object[] arguments(Method m) {
        Class<?>[] types = m.getParameterTypes();
        Object[] args = new Object[types.length];
        boolean isWild = RANDOM.nextInt(6) == 0;
        for (int i = 0; i < args.length; i++) {
            args[i] = number(isWild);
            if (types[i] == long.class) {
                args[i] = text();
            }
        }
        return args;
    }

    private static int number(boolean isWild) {
        if (isWild && RANDOM.nextInt(2) == 0) {
            return RANDOM.nextInt(4) == 0 ? RANDOM.nextInt() : EDGES[RANDOM.nextInt(EDGES.length)];
        }
        int draw = RANDOM.nextInt(10);
        return draw < 7 ? RANDOM.nextInt(4) : draw < 9 ? RANDOM.nextInt(9) : RANDOM.nextInt(100);
    }

    private static long text() {
        String signs = "0123;>=, ";
        long eight = 0;
        for (int i = 0; i < 8; i++) {
            eight = eight << 8 | signs.charAt(RANDOM.nextInt(signs.length()));
        }
        return eight;
    }

    private static Object call(NestedPoints x, Method m, Object[] args) throws Exception {
        try {
            return m.invoke(x, args);
        } catch (InvocationTargetException e) {
            throw new IllegalStateException(m.getName() + " threw with " + List.of(args), e.getCause());
        }
    }

    private static String told(NestedPoints x) {
        StringBuilder out = new StringBuilder();
        for (int what = 0; what < 5; what++) {
            out.append(x.many(what)).append(' ');
        }
        for (int i = 0; i < x.many(4); i++) {
            out.append(x.trace(i)).append(' ');
        }
        for (int sheet = 0; sheet < 4; sheet++) {
            for (int sort = 0; sort < 3; sort++) {
                out.append(x.item(sheet, sort, 0)).append(' ').append(x.item(sheet, sort, 2)).append(' ');
            }
            for (int as : new int[] {0, 1, 2, 10, 11, 12}) {
                out.append(x.taken(sheet, as)).append(' ');
            }
        }
        for (int space = 0; space < 6; space++) {
            out.append(Check.lows(x, space)).append(';');
        }
        out.append(x.seed(0)).append(' ').append(x.again()).append(' ').append(x.seed(0)).append(x.space(0));
        return out.toString();
    }
}
