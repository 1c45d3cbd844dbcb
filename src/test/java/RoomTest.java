import java.lang.management.ManagementFactory;
import java.lang.reflect.Array;
import java.lang.reflect.Field;
import java.lang.reflect.Modifier;
import java.util.IdentityHashMap;

/** All calls of one run live in one room: what an object takes, and that calls make next to nothing. */
public final class RoomTest {
    private static int elements = 0;
    private static final IdentityHashMap<Object, Boolean> SEEN = new IdentityHashMap<>();

    public static void main(String[] args) throws IllegalAccessException {
        LikeRegistry x = Due.with("floor 4 by 2;mark a weighs 3;mark b weighs 5;mark c weighs 2;paper p a b;paper q b;"
            + "paper r a c;paper s c;paper t b c;clerk k at 3;lies p at 0;lies q at 1;lies r at 2;lies s at 6;lies t at 7;");
        Due.days(x, "loop 99;any;when total>3;swap 0 1;end;ask k p;end;");
        count(x);
        System.out.println("one object: " + SEEN.size() + " objects and arrays, " + elements + " fields and elements");
        Due.is("some hundred objects and arrays at most", SEEN.size() <= 150, true);
        Due.is("some thousand fields and elements at most", elements <= 4000, true);
        long made = allocatedBy(x);
        System.out.println("512 calls: " + made + " bytes");
        Due.is("calls make next to nothing", made < 512 * 64, true);
        lastOfAllCalls();
        Due.end("RoomTest");
    }

    /** "What it is": an object is used for at most 512 calls: the 512th is as good as the first. */
    private static void lastOfAllCalls() {
        LikeRegistry x = new LikeRegistry();
        for (int k = 0; k < 101; k++) {
            // paper p; file p;
            x.feed(0x70617065, 0x7220703B, 0x66696C65, 0x20703B20, 0x20202020);
            Due.is("registry", x.registry(8), 1);
            x.feed(0x66696C65, 0x20703B20, 0x20202020, 0x20202020, 0x20202020);
            Due.is("days", x.days(20), 1);
            Due.is("live", x.live(k), 1);
        }
        for (int k = 505; k < 508; k++) {
            Due.is("mark", x.mark(), k - 504);
        }
        Due.is("take", x.take(0), 0);
        Due.is("mark", x.mark(), -1);
        Due.is("undo", x.undo(), 2);
        Due.is("the 512th: it lies again", x.told(7), 1);
    }

    private static void count(Object o) throws IllegalAccessException {
        if (o == null || SEEN.put(o, true) != null) {
            return;
        }
        if (o.getClass().isArray()) {
            elements += Array.getLength(o);
            for (int k = 0; k < Array.getLength(o) && !o.getClass().getComponentType().isPrimitive(); k++) {
                count(Array.get(o, k));
            }
            return;
        }
        for (Field f : o.getClass().getDeclaredFields()) {
            if (!Modifier.isStatic(f.getModifiers())) {
                elements++;
                f.setAccessible(true);
                if (!f.getType().isPrimitive()) {
                    count(f.get(o));
                }
            }
        }
    }

    private static long allocatedBy(LikeRegistry x) {
        com.sun.management.ThreadMXBean threads = (com.sun.management.ThreadMXBean) ManagementFactory.getThreadMXBean();
        int[] five = {1, 1, 2, 0, 1};
        for (String name : Calls.NAMES) {
            Calls.onReal(x, name, five);
        }
        x.tray(1, 0, 60);
        long from = threads.getCurrentThreadAllocatedBytes();
        for (int k = 0; k < 512; k++) {
            Calls.onReal(x, Calls.NAMES[k % Calls.NAMES.length], five);
        }
        return threads.getCurrentThreadAllocatedBytes() - from;
    }
}
