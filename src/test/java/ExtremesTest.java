import java.lang.reflect.InvocationTargetException;
import java.lang.reflect.Method;
import java.util.function.Supplier;

/**
 * LANGUAGE.md, 7, and part 5: no call throws, whatever it is given in whatever state, and with another STATUS than 0 it
 * gives NONE or false: all calls with all couples, threes .. of numbers at and beyond the document's limits.
 */
public final class ExtremesTest {
    private static final int[] NUMBERS = {Integer.MIN_VALUE, -1, 0, 1, 2, 3, 5, 7, 8, 20, 60, 255, 9999, Integer.MAX_VALUE};
    private static final int[] FEWER = {Integer.MIN_VALUE, -1, 0, 1, 3, 60, Integer.MAX_VALUE};
    private static final int CALLS = 300;
    private static long calls = 0;
    private final Supplier<LikeRegistry> state;
    private LikeRegistry x;
    private int left;

    private ExtremesTest(Supplier<LikeRegistry> state) {
        this.state = state;
    }

    public static void main(String[] args) {
        new ExtremesTest(LikeRegistry::new).goThroughAll();
        new ExtremesTest(States::office).goThroughAll();
        new ExtremesTest(States::full).goThroughAll();
        new ExtremesTest(States::noneLies).goThroughAll();
        new ExtremesTest(States::most).goThroughAll();
        new ExtremesTest(ExtremesTest::crowded).goThroughAll();
        System.out.println("ExtremesTest: " + calls + " calls");
        Due.end("ExtremesTest");
    }

    /** All eight lie, all clerks stand in the last cell, the DAYS have no end of their own. */
    private static LikeRegistry crowded() {
        LikeRegistry x = States.dressed(States.MOST);
        for (int k = 0; k < 8; k++) {
            x.lay(k, k < 4 ? k : 12 + k);
            x.stain(k, k, true);
        }
        for (int k = 0; k < 4; k++) {
            x.walk(k, 19);
        }
        x.days(0);
        Due.days(x, "loop 99;loop 99;loop 99;any;end;end;end;");
        return x;
    }

    private void goThroughAll() {
        for (Method m : LikeRegistry.class.getDeclaredMethods()) {
            if (java.lang.reflect.Modifier.isPublic(m.getModifiers())) {
                goThrough(m, new Object[m.getParameterCount()], 0);
            }
        }
    }

    private void goThrough(Method m, Object[] given, int k) {
        if (k == given.length) {
            call(m, given);
            return;
        }
        Class<?> kind = m.getParameterTypes()[k];
        for (int v : given.length > 3 ? FEWER : NUMBERS) {
            given[k] = kind == boolean.class ? (Object) (v > 0) : kind == long.class ? (Object) (v * 0x1_0000_0001L) : (Object) v;
            goThrough(m, given, k + 1);
        }
    }

    private void call(Method m, Object[] given) {
        if (left == 0) {
            x = state.get();
            left = CALLS;
        }
        left--;
        calls++;
        try {
            Object answer = m.invoke(x, given);
            int status = x.status();
            boolean has = !"status top bottom feed fault".contains(m.getName());
            boolean refused = answer instanceof Boolean ? !(Boolean) answer : ((Number) answer).longValue() == LikeRegistry.NONE;
            if (status < 0 || status > 9 || x.bottom() < 1 || has && status != 0 && !refused
                || has && status == 0 && refused && !m.getName().equals("read")) {
                Due.is(m.getName() + java.util.Arrays.toString(given) + ": status with " + answer, status, refused ? 1 : 0);
            }
        } catch (IllegalAccessException | InvocationTargetException e) {
            Due.is(m.getName() + java.util.Arrays.toString(given) + " threw " + e.getCause(), 1, 0);
        }
    }
}
