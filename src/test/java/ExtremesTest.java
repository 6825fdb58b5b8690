import java.lang.reflect.InvocationTargetException;
import java.lang.reflect.Method;
import java.util.ArrayList;
import java.util.Arrays;
import java.util.HashMap;
import java.util.List;
import java.util.Map;

/**
 * Every method, in several states, with every mix of numbers from the far ends of int and from
 * the bounds that the document names: no call may throw, and each answers as the Oracle does.
 */
public final class ExtremesTest {
    private static final int MIN = Integer.MIN_VALUE;
    private static final int MAX = Integer.MAX_VALUE;
    private static final int[] MANY = {MIN, MIN + 1, -65536, -201, -200, -101, -100, -32, -9, -8, -7, -6, -5, -4, -3, -2, -1, 0, 1,
        2, 3, 4, 5, 6, 7, 8, 9, 10, 15, 16, 17, 20, 21, 31, 32, 33, 59, 60, 61, 63, 64, 65, 99, 100, 101, 127, 128, 255, 256, 511,
        512, 513, 1600, 65535, 65536, 1 << 30, 2000000000, 2000000001, MAX - 1, MAX};
    private static final int[] SOME = {MIN, -2, -1, 0, 1, 2, 3, 4, 8, 9, 60, 61, 99, 100, 101, 512, 1 << 30, MAX};
    private static final int[] FEW = {MIN, -1, 0, 1, 3, 20, 61, 2000000000, MAX};
    private static final int[] FEWEST = {MIN, -1, 0, 1, 2, 60, MAX};
    private static final Map<String, Method> METHODS = new HashMap<>();
    private static final int[][] BY_PARAMETERS = {{}, MANY, MANY, SOME, FEW, FEWEST};

    private final LieKitchen x = new LieKitchen();
    private final Oracle y = new Oracle();
    private final String state;

    private ExtremesTest(String state, String text) {
        this.state = state;
        byte[] b = Check.bytes(text);
        for (int k = 0; 4 * k < b.length; k += 5) {
            both("feed", Check.number(b, k), Check.number(b, k + 1), Check.number(b, k + 2), Check.number(b, k + 3),
                    Check.number(b, k + 4));
        }
        both("end", b.length);
        both("kitchen");
    }

    public static void main(String[] args) {
        String full = Sentence.NINE + "law some 0 not 1 2 not 8;".repeat(16) + "person cost 99 knows 0 4 8;".repeat(6)
                + "wants not 0;known 1;";
        String[][] states = {{"none", ""}, {"empty", "kitchen;"}, {"one", Sentence.ONE}, {"K", Sentence.K},
            {"impossible", Sentence.IMPOSSIBLE}, {"full", full}, {"faulty", "kitchen;#"}};
        for (String[] state : states) {
            for (Method m : LieKitchen.class.getDeclaredMethods()) {
                if (java.lang.reflect.Modifier.isPublic(m.getModifiers()) && !m.getName().equals("feed")) {
                    ExtremesTest plain = new ExtremesTest(state[0], state[1]);
                    plain.mixes(m.getName(), m.getParameterCount());
                    ExtremesTest used = new ExtremesTest(state[0] + ", used", state[1]);
                    used.use();
                    used.mixes(m.getName(), m.getParameterCount());
                }
            }
        }
        Check.finish();
    }

    /** Something is said, kept, and in the rows: full ones, of the ends of long. */
    private void use() {
        both("say", 0, 0);
        both("keep", 0);
        both("row", 0, 3, 60);
        both("row", 1, 0, 60);
        both("row", 2, 3, 2);
        both("write", 2, 0, Long.MIN_VALUE);
        both("write", 2, 1, Long.MAX_VALUE);
        both("write", 1, 59, Long.MAX_VALUE);
    }

    private void mixes(String name, int parameters) {
        int[] values = BY_PARAMETERS[parameters];
        List<Object> args = new ArrayList<>();
        int mixes = (int) Math.pow(values.length, parameters);
        for (int mix = 0; mix < mixes; mix++) {
            args.clear();
            int rest = mix;
            for (int i = 0; i < parameters; i++) {
                args.add(values[rest % values.length]);
                rest /= values.length;
            }
            if (name.equals("write")) {
                args.set(2, (long) (int) args.get(2) << (mix % 2 == 0 ? 0 : 32));
            }
            both(name, args.toArray());
        }
    }

    private void both(String name, Object... args) {
        Check.due(state + ": " + name + Arrays.toString(args), call(x, name, args), call(y, name, args));
    }

    private static long call(Object on, String name, Object[] args) {
        Method m = METHODS.computeIfAbsent(on.getClass().getName() + "." + name, k -> find(on.getClass(), name, args.length));
        try {
            return ((Number) m.invoke(on, args)).longValue();
        } catch (IllegalAccessException | InvocationTargetException e) {
            throw new IllegalStateException(on.getClass() + ": " + name + Arrays.toString(args), e);
        }
    }

    private static Method find(Class<?> where, String name, int parameters) {
        for (Method m : where.getDeclaredMethods()) {
            if (m.getName().equals(name) && m.getParameterCount() == parameters) {
                m.setAccessible(true);
                return m;
            }
        }
        throw new IllegalStateException(name);
    }
}
