import java.lang.reflect.InvocationTargetException;
import java.lang.reflect.Method;
import java.lang.reflect.Modifier;
import java.util.Arrays;
import java.util.List;
import java.util.function.Supplier;

/**
 * Every call with all mixtures of small, great and edge arguments, in an empty, a busy and a full state:
 * none throws, and one that is refused changes nothing.
 */
public final class AnyArgumentsTest {
    private static final int[] NUMBERS = {Integer.MIN_VALUE, -1, 0, 1, 8, Integer.MAX_VALUE};
    private static final long[] WORDS = {Long.MIN_VALUE, -1, 0, 1, 'T', 0x100, 0x3a54, 0x7e7e7e7e7e7e7e7eL,
        Long.MAX_VALUE};
    private static final List<Long> REFUSALS = List.of(-101L, -102L, -103L, -104L, -1001L, -1002L);
    private static final Check CHECK = new Check();

    private final String state;
    private final Supplier<CanalCompany> start;
    private CanalCompany x;
    private long was;
    private int calls;

    private AnyArgumentsTest(String state, Supplier<CanalCompany> start) {
        this.state = state;
        this.start = start;
        begin();
    }

    public static void main(String[] args) throws IllegalAccessException {
        new AnyArgumentsTest("new", CanalCompany::new).tryAll();
        new AnyArgumentsTest("prepared", Canals::prepared).tryAll();
        new AnyArgumentsTest("busy", Canals::busy).tryAll();
        new AnyArgumentsTest("fullest", Canals::fullest).tryAll();
        CHECK.end();
    }

    private void begin() {
        x = start.get();
        was = x.digest();
        calls = 0;
    }

    private void tryAll() throws IllegalAccessException {
        for (Method m : CanalCompany.class.getDeclaredMethods()) {
            if (Modifier.isPublic(m.getModifiers())) {
                tryFrom(m, new Object[m.getParameterCount()], 0);
            }
        }
    }

    private void tryFrom(Method m, Object[] args, int at) throws IllegalAccessException {
        if (at == args.length) {
            tryOne(m, args);
            return;
        }
        Class<?> type = m.getParameterTypes()[at];
        if (type == int.class) {
            for (int v : NUMBERS) {
                args[at] = v;
                tryFrom(m, args, at + 1);
            }
        } else if (type == long.class) {
            for (long v : WORDS) {
                args[at] = v;
                tryFrom(m, args, at + 1);
            }
        } else {
            args[at] = true;
            tryFrom(m, args, at + 1);
            args[at] = false;
            tryFrom(m, args, at + 1);
        }
    }

    private void tryOne(Method m, Object[] args) throws IllegalAccessException {
        String label = state + ": " + m.getName() + Arrays.toString(args);
        try {
            long got = ((Number) m.invoke(x, args)).longValue();
            boolean same = x.digest() == was;
            CHECK.holds(label + " was refused by " + got + " and changed something", same || !isRefusal(m, got));
            calls++;
            // That a BOAT was billed does not show in the digest; and an object is good for 512 calls.
            if (!same || m.getName().equals("bill") || calls > 100) {
                begin();
            }
        } catch (InvocationTargetException e) {
            CHECK.holds(label + " threw " + e.getCause(), false);
            begin();
        }
    }

    private static boolean isRefusal(Method m, long got) {
        return m.getName().equals("sum") ? got == -1 : m.getReturnType() == int.class && REFUSALS.contains(got);
    }
}
