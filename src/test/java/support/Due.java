/** What the tests share: answers that are due, counted, and texts brought to the tape. */
final class Due {
    private static int asked = 0;
    private static int wrong = 0;

    private Due() {
    }

    static void is(String call, long got, long want) {
        asked++;
        if (got != want) {
            wrong++;
            System.out.println(call + " answered " + got + ", due is " + want);
        }
    }

    static void is(String call, boolean got, boolean want) {
        is(call, got ? 1 : 0, want ? 1 : 0);
    }

    /** An answer with STATUS 0. */
    static void fine(LikeRegistry x, String call, long got, long want) {
        is(call, got, want);
        is(call + ": status", x.status(), 0);
    }

    static void fine(LikeRegistry x, String call, boolean got) {
        is(call, got, true);
        is(call + ": status", x.status(), 0);
    }

    /** NONE with another STATUS. */
    static void refused(LikeRegistry x, String call, long got, int status) {
        is(call, got, LikeRegistry.NONE);
        is(call + ": status", x.status(), status);
    }

    static void refused(LikeRegistry x, String call, boolean got, int status) {
        is(call, got, false);
        is(call + ": status", x.status(), status);
    }

    static void fraction(LikeRegistry x, String call, boolean got, long top, long bottom) {
        fine(x, call, got);
        is(call + ": top", x.top(), top);
        is(call + ": bottom", x.bottom(), bottom);
    }

    static void feed(LikeRegistry x, String text) {
        int[] five = new int[5];
        for (int from = 0; from < text.length(); from += 20) {
            for (int k = 0; k < 20; k++) {
                int sign = from + k < text.length() ? text.charAt(from + k) & 255 : 0;
                five[k / 4] = five[k / 4] << 8 | sign;
            }
            x.feed(five[0], five[1], five[2], five[3], five[4]);
        }
    }

    static int registry(LikeRegistry x, String text) {
        feed(x, text);
        return x.registry(text.length());
    }

    static int days(LikeRegistry x, String text) {
        feed(x, text);
        return x.days(text.length());
    }

    /** A new object with a REGISTRY that has no FAULT. */
    static LikeRegistry with(String text) {
        LikeRegistry x = new LikeRegistry();
        registry(x, text);
        is("registry of " + text, x.status(), 0);
        return x;
    }

    static void registryFault(String text, int fault, int place) {
        LikeRegistry x = new LikeRegistry();
        refused(x, "registry of '" + text + "'", registry(x, text), 9);
        is("fault of '" + text + "'", x.fault(0), fault);
        is("its place in '" + text + "'", x.fault(1), place);
    }

    static void daysFault(LikeRegistry x, String text, int fault, int place) {
        refused(x, "days of '" + text + "'", days(x, text), 9);
        is("fault of '" + text + "'", x.fault(0), fault);
        is("its place in '" + text + "'", x.fault(1), place);
    }

    static void daysStand(LikeRegistry x, String text, int steps) {
        fine(x, "days of '" + text + "'", days(x, text), steps);
        is("fault of '" + text + "'", x.fault(0), 0);
        is("its place in '" + text + "'", x.fault(1), LikeRegistry.NONE);
    }

    static void end(String test) {
        System.out.println(test + ": " + asked + " answers, " + wrong + " wrong");
        if (wrong != 0) {
            System.exit(1);
        }
    }
}
