import java.lang.reflect.InvocationTargetException;
import java.lang.reflect.Method;
import java.lang.reflect.Modifier;
import java.util.ArrayList;
import java.util.Comparator;
import java.util.List;
import java.util.Random;

/** No call ever throws, for any arguments in any state, far beyond an object's 512th call too; the seeds are fixed. */
public final class WildRunsTest {
    private static final int RUNS = 30;
    private static final int CALLS = 30000;
    private static final long[] EDGES = {0, 1, -1, 2, 4, 5, 6, 7, 11, 12, 13, 30, 39, 40, 41, 59, 60, 61, 62, -60, -61, 199, 200, 201,
        299, 300, 301, 366, 732, 100000, 100001, 1000000000L, 1000000001L, -1000000007L, Integer.MIN_VALUE, Integer.MAX_VALUE,
        1L << 31, 1L << 32, -(1L << 32), Long.MIN_VALUE, Long.MAX_VALUE, Long.MAX_VALUE - 100000};
    private static final String SIGNS = "aabbyz  0123459`{/:";

    private final Random random;
    private final ReaderRows rows = new ReaderRows();
    private final int most;

    private WildRunsTest(long seed) {
        random = new Random(seed);
        most = seed % 2 == 0 ? 62 : 8;
    }

    public static void main(String[] args) throws IllegalAccessException {
        Due due = new Due();
        List<Method> methods = new ArrayList<>();
        for (Method method : ReaderRows.class.getDeclaredMethods()) {
            if (Modifier.isPublic(method.getModifiers())) {
                methods.add(method);
            }
        }
        // The order in which reflection tells methods is free, and a run must be the same each time.
        methods.sort(Comparator.comparing(Method::getName));
        due.is("methods", methods.size(), 18);
        for (long seed = 0; seed < RUNS; seed++) {
            String fault = new WildRunsTest(seed).run(methods);
            due.holds("run " + seed + ": " + fault, fault == null);
        }
        due.end("WildRunsTest");
    }

    private String run(List<Method> methods) throws IllegalAccessException {
        for (int made = 0; made < CALLS; made++) {
            Method method = methods.get(random.nextInt(methods.size()));
            try {
                method.invoke(rows, arguments(method));
            } catch (InvocationTargetException e) {
                return method.getName() + ", call " + (made + 1) + ", throws " + e.getCause();
            }
            if (random.nextInt(12) == 0) {
                collectRow();
            }
        }
        return null;
    }

    private Object[] arguments(Method method) {
        Class<?>[] types = method.getParameterTypes();
        Object[] values = new Object[types.length];
        for (int i = 0; i < types.length; i++) {
            if (types[i] == boolean.class) {
                values[i] = random.nextBoolean();
            } else {
                long value = number();
                values[i] = types[i] == int.class ? (Object) (int) value : (Object) value;
            }
        }
        return values;
    }

    private long number() {
        int how = random.nextInt(8);
        return how == 0 ? EDGES[random.nextInt(EDGES.length)] : how == 1 ? random.nextLong() : random.nextInt(most);
    }

    private void collectRow() {
        int names = random.nextInt(14);
        for (int i = 0; i < names; i++) {
            rows.sign('a' + random.nextInt(3));
        }
        rows.sign(' ');
        rows.sign('0' + random.nextInt(6));
        rows.sign(' ');
        int more = random.nextInt(random.nextInt(10) == 0 ? 60 : 7);
        for (int i = 0; i < more; i++) {
            rows.sign(more < 6 ? '0' + random.nextInt(10) : SIGNS.charAt(random.nextInt(SIGNS.length())));
        }
        rows.import0();
    }
}
