import java.lang.reflect.InvocationTargetException;
import java.lang.reflect.Method;
import java.util.List;
import java.util.function.Supplier;

/**
 * Calls as rows of text, each on an object of its own: "cellOf 1 !6" is refused with STATUS 6 and must change nothing
 * else; "cellOf 0 =2" answers 2 with STATUS 0 (a boolean counts 1 or 0); "skill 0 =1/3" tells that FRACTION;
 * "game 3 ." has STATUS 0.
 */
final class Rows {
    private Rows() {
    }

    static void of(String promise, Supplier<LikeRegistry> state, String... rows) {
        List<String> untouched = Whole.of(state.get());
        for (String row : rows) {
            String[] parts = row.split(" ");
            String due = parts[parts.length - 1];
            LikeRegistry x = state.get();
            String call = promise + ": " + row;
            long got = call(x, parts);
            if (due.charAt(0) == '!') {
                Due.is(call, got, answersByBoolean(parts[0]) ? 0 : LikeRegistry.NONE);
                Due.is(call + ": status", x.status(), Integer.parseInt(due.substring(1)));
                same(call, Whole.of(x), untouched);
            } else {
                Due.is(call + ": status", x.status(), 0);
                answered(x, call, got, due);
            }
        }
    }

    private static void answered(LikeRegistry x, String call, long got, String due) {
        int by = due.indexOf('/');
        if (by > 0) {
            Due.is(call, got, 1);
            Due.is(call + ": top", x.top(), Long.parseLong(due.substring(1, by)));
            Due.is(call + ": bottom", x.bottom(), Long.parseLong(due.substring(by + 1)));
        } else if (due.charAt(0) == '=') {
            Due.is(call, got, Long.parseLong(due.substring(1)));
        } else {
            Due.is(call + ": a row that tells what is due", due.equals("."), true);
        }
    }

    static void same(String call, List<String> got, List<String> due) {
        Due.is(call + ": as much is seen", got.size(), due.size());
        for (int k = 0; k < got.size() && k < due.size(); k++) {
            Due.is(call + " changed '" + due.get(k) + "' to '" + got.get(k) + "'", got.get(k).equals(due.get(k)), true);
        }
    }

    private static Method named(String name) {
        for (Method m : LikeRegistry.class.getMethods()) {
            if (m.getName().equals(name) && m.getDeclaringClass() == LikeRegistry.class) {
                return m;
            }
        }
        throw new IllegalArgumentException("no call " + name);
    }

    private static boolean answersByBoolean(String name) {
        return named(name).getReturnType() == boolean.class;
    }

    private static long call(LikeRegistry x, String[] parts) {
        Method m = named(parts[0]);
        Class<?>[] kinds = m.getParameterTypes();
        if (parts.length != kinds.length + 2) {
            throw new IllegalArgumentException(String.join(" ", parts));
        }
        Object[] given = new Object[kinds.length];
        for (int k = 0; k < given.length; k++) {
            given[k] = kinds[k] == boolean.class ? (Object) parts[k + 1].equals("true")
                : kinds[k] == long.class ? (Object) Long.parseLong(parts[k + 1]) : (Object) Integer.parseInt(parts[k + 1]);
        }
        try {
            Object answer = m.invoke(x, given);
            return answer instanceof Boolean ? ((Boolean) answer ? 1 : 0) : ((Number) answer).longValue();
        } catch (IllegalAccessException | InvocationTargetException e) {
            throw new IllegalStateException(String.join(" ", parts), e);
        }
    }
}
