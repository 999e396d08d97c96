import java.lang.reflect.InvocationTargetException;
import java.lang.reflect.Method;
import java.util.Arrays;

/** LANGUAGE.md, rules 6 and 7: no call throws, for any arguments, in states of many sorts (512 calls an object at most). */
public final class NeverThrowsTest {
    private static final int CALLS = 512;
    private static final int MOST_OF_ONE = 20000;
    private static final int[] INTS = {Integer.MIN_VALUE, -2147483647, -2, -1, 0, 1, 2, 3, 4, 7, 8, 15, 16, 31, 32, 100, 101, 270, 271, 400, 1 << 27, 1 << 28, Integer.MAX_VALUE - 1, Integer.MAX_VALUE};
    private static final long[] LONGS = {
        Long.MIN_VALUE, Long.MIN_VALUE + 1, -1000000000000L, -1, 0, 1, 2, 31, 32, 1000, 1001, 1000000000000L, 1000000000001L, 1L << 31, 1L << 32, 1L << 53, Long.MAX_VALUE - 1, Long.MAX_VALUE};

    public static void main(String[] args) throws IllegalAccessException {
        Method[] methods = TailRecorder.class.getDeclaredMethods();
        Arrays.sort(methods, (a, b) -> a.getName().compareTo(b.getName()));
        for (int state = 0; state < 4; state++) {
            for (Method m : methods) {
                if (java.lang.reflect.Modifier.isPublic(m.getModifiers())) tried(m, state);
            }
        }
        Due.finish();
    }

    /** 0: new; 1: recorders of two digits; 2: of one digit, of both sorts, written, shelved; 3: as full as may be. */
    private static TailRecorder of(int state) {
        TailRecorder x = new TailRecorder();
        if (state == 0) return x;
        for (int r = 0; r < 4; r++) x.make(r, state == 2 ? r % 2 : 0, state == 1 ? 2 : 1, state == 1 ? 1000000000000L : 1000 + r);
        if (state == 2) {
            for (int r = 0; r < 4; r++) {
                x.record(r, 1000, 70000, 3);
                x.shelve(r);
                x.record(r, 500, 3, 0);
                x.example(r, 1000, r < 2, 5);
            }
            x.begin(1);
            x.swap();
            x.begin(2);
        }
        if (state == 3) {
            long[] units = new long[48];
            Arrays.fill(units, 1000000000000000L);
            Due.fill(x, Due.packed(0, 2, 1000000000000L, units));
            x.unpack(0);
            x.add(1, 0);
            x.pack(0);
        }
        return x;
    }

    /** All arguments there are, or (of so many) one in a few, evenly. */
    private static void tried(Method m, int state) throws IllegalAccessException {
        Class<?>[] types = m.getParameterTypes();
        long all = 1;
        for (Class<?> t : types) all *= choices(t);
        long step = all / MOST_OF_ONE | 1;
        // no factor in common with how many choices there are (24, 18, 2), so that none is left out
        if (step % 3 == 0) step += 2;
        TailRecorder x = of(state);
        int calls = 64;
        for (long k = 0; k < all; k += step) {
            Object[] with = arguments(types, k);
            try {
                m.invoke(x, with);
            } catch (InvocationTargetException e) {
                Due.due(m.getName() + Arrays.toString(with) + " in state " + state + " threw " + e.getCause(), 1, 0);
            }
            calls++;
            if (calls >= CALLS) {
                x = of(state);
                calls = 64;
            }
        }
    }

    private static int choices(Class<?> t) {
        return t == int.class ? INTS.length : t == long.class ? LONGS.length : 2;
    }

    private static Object[] arguments(Class<?>[] types, long k) {
        Object[] with = new Object[types.length];
        long rest = k;
        for (int i = 0; i < types.length; i++) {
            int which = (int) (rest % choices(types[i]));
            rest /= choices(types[i]);
            with[i] = types[i] == int.class ? (Object) INTS[which] : types[i] == long.class ? (Object) LONGS[which] : (Object) (which == 1);
        }
        return with;
    }
}
