/** Promises 61 to 65: DAYS that are lived, their mean, MARKS. */
public final class DaysTest {
    private static final String OFFICE = "floor 3 by 2;mark r weighs 3;mark s weighs 2;mark t weighs 5;paper a r s;"
        + "paper b r;paper c s t;paper d;paper e r t;clerk k at 0;clerk l at 5;lies a at 0;lies c at 4;lies e at 2;";

    public static void main(String[] args) {
        liveSteps();
        missed();
        tests();
        loops();
        limit();
        draws();
        mean();
        marks();
        Due.end("DaysTest");
    }

    private static void lived(LikeRegistry x, String days, int seed, int steps, int... due) {
        Due.is("days '" + days + "'", Due.days(x, days) >= 0, true);
        Due.fine(x, "live '" + days + "'", x.live(seed), steps);
        for (int what = 0; what < due.length; what++) {
            Due.fine(x, "lived " + what + " of '" + days + "'", x.lived(what), due[what]);
        }
    }

    private static void liveSteps() {
        LikeRegistry x = Due.with(OFFICE);
        lived(x, "file b;take a;swap 1 3;ask l e;sort;stop;file a;", 0, 6, 0, 1, 1, 1, 0);
        // b to 1, a away, b to 3; c, e in 4, 2: sorted b 2, c 3, e 4; the file behind stop is not come to.
        Due.fine(x, "b", x.cellOf(1), 2);
        Due.fine(x, "c", x.cellOf(2), 3);
        Due.fine(x, "e", x.cellOf(4), 4);
        Due.refused(x, "a", x.cellOf(0), 6);
        Due.fine(x, "l went to e, which lay in 2", x.clerk(1), 2);
        Due.fine(x, "an empty day", Due.days(x, ""), 0);
        Due.fine(x, "no steps", x.live(9999), 0);
        Due.refused(x, "seed -1", x.live(-1), 1);
        Due.refused(x, "seed 10000", x.live(10000), 1);
        Due.refused(x, "lived -1", x.lived(-1), 1);
        Due.refused(x, "lived 5", x.lived(5), 1);
        Due.fine(x, "registry", Due.registry(x, ""), 0);
        Due.refused(x, "no days", x.live(0), 6);
        Due.refused(x, "a wrong seed first", x.live(-1), 1);
        Due.fine(x, "lived stays, whatever came behind it", x.lived(0), 0);
        LikeRegistry y = new LikeRegistry();
        Due.refused(y, "a wrong number first", y.lived(5), 1);
        Due.refused(y, "there was none", y.lived(4), 6);
    }

    private static void missed() {
        LikeRegistry x = Due.with(OFFICE);
        lived(x, "file a;", 0, 1, 1, 0, 0, 0, 0);
        lived(x, "take b;", 0, 1, 1, 0, 0, 0, 0);
        lived(x, "swap 0 0;", 0, 1, 1, 0, 0, 0, 0);
        lived(x, "swap 1 3;", 0, 1, 1, 0, 0, 0, 0);
        lived(x, "ask k c;", 0, 1, 0, 0, 0, 1, 0);
        lived(x, "ask k d;", 0, 1, 1, 0, 0, 0, 0);
        lived(x, "sort;sort;", 0, 2, 0, 0, 0, 0, 0);
        Due.fine(x, "k found a by s, and stays", x.clerk(0), 0);
        LikeRegistry full = Due.with("floor 1 by 1;paper a;paper b;lies a at 0;");
        lived(full, "file b;", 0, 1, 1, 0, 0, 0, 0);
        LikeRegistry none = new LikeRegistry();
        lived(none, "any;any;", 5, 2, 2, 0, 0, 0, 0);
    }

    private static void tests() {
        LikeRegistry x = Due.with(OFFICE);
        lived(x, "when lies a;take a;end;when lies a;stop;end;sort;", 0, 4, 0, 0, 1);
        x = Due.with(OFFICE);
        lived(x, "when beside a b;stop;end;file b;when beside a b;take c;end;when beside b a;take e;end;"
            + "when beside a a;stop;end;", 0, 7, 0, 1, 2);
        Due.fine(x, "a, b lie", x.told(7), 3);
        Due.fine(x, "total", x.told(9), 3);
        lived(x, "when total<3;stop;end;when total>3;stop;end;when total=3;take a;end;", 0, 4, 0, 0, 1);
        lived(x, "when total=3;stop;end;when total<1;when total>0;stop;end;take b;end;", 0, 4, 0, 0, 1);
        Due.fine(x, "none lies", x.told(7), 0);
    }

    private static void loops() {
        LikeRegistry x = Due.with(OFFICE);
        lived(x, "loop 3;sort;end;", 0, 4, 0);
        lived(x, "loop 2;loop 3;sort;end;end;", 0, 9, 0);
        lived(x, "loop 99;loop 99;end;end;", 0, 100, 0, 0, 0, 0, 0);
        lived(x, "loop 9;take a;when lies a;end;stop;end;sort;", 0, 4, 0, 0, 1, 0, 0);
        lived(x, "loop 2;when total=0;loop 2;sort;end;end;end;", 1, 9, 0);
    }

    private static void limit() {
        LikeRegistry x = Due.with(OFFICE);
        lived(x, "loop 99;sort;sort;sort;end;sort;sort;", 0, 300, 0, 0, 0, 0, 0);
        lived(x, "loop 99;sort;sort;sort;end;sort;sort;sort;", 0, 300, 0, 0, 0, 0, 1);
        lived(x, "loop 99;sort;sort;sort;end;sort;stop;sort;", 0, 300, 0, 0, 0, 0, 0);
        lived(x, "loop 99;sort;sort;sort;end;sort;sort;stop;", 0, 300, 0, 0, 0, 0, 1);
        lived(x, "loop 99;sort;sort;sort;end;sort;loop 9;end;", 0, 300, 0, 0, 0, 0, 0);
        lived(x, "loop 99;sort;sort;sort;end;sort;loop 9;take a;end;", 0, 300, 0, 0, 0, 0, 1);
        lived(x, "loop 99;loop 99;take a;end;end;", 0, 300, 295, 0, 1, 0, 1);
        lived(x, "sort;stop;sort;", 0, 2, 0, 0, 0, 0, 0);
    }

    private static void draws() {
        LikeRegistry x = Due.with(OFFICE);
        int s = 1234;
        int lying = x.told(7);
        int filed = 0;
        int taken = 0;
        for (int k = 0; k < 20; k++) {
            s = (s * 3163 + 11369) % 65536;
            int paper = s / 8 % 5;
            if ((lying >> paper & 1) != 0) {
                taken++;
            } else {
                filed++;
            }
            lying ^= 1 << paper;
        }
        lived(x, "loop 20;any;end;", 1234, 21, 0, filed, taken, 0, 0);
        Due.fine(x, "who lies", x.told(7), lying);
        // 9999 times 3163 and 11369 is 31638206; by 65536 left 49854; by 8 it is 6231: paper 1 of five.
        x = Due.with(OFFICE);
        lived(x, "any;", 9999, 1, 0, 1, 0, 0, 0);
        Due.fine(x, "b was filed", x.cellOf(1), 1);
        // One scrawled behind the days is drawn, too: 6231 by 6 is paper 3.
        x = Due.with(OFFICE);
        Due.days(x, "any;");
        x.scrawl(7);
        Due.fine(x, "live", x.live(9999), 1);
        Due.fine(x, "d was filed", x.cellOf(3), 1);
        // A drawn one without an empty cell is missed.
        x = Due.with("floor 1 by 1;paper a;paper b;lies a at 0;");
        Due.days(x, "loop 30;any;end;");
        Due.fine(x, "live", x.live(3), 31);
        Due.fine(x, "filed and taken and missed", x.lived(0) + x.lived(1) + x.lived(2), 30);
        Due.is("some are missed", x.lived(0) > 0, true);
    }

    private static void mean() {
        LikeRegistry x = Due.with(OFFICE);
        Due.refused(x, "no days", x.mean(0, 1), 6);
        Due.refused(x, "seed -1", x.mean(-1, 1), 1);
        Due.refused(x, "seed 10000", x.mean(10000, 1), 1);
        Due.refused(x, "many 0", x.mean(0, 0), 1);
        Due.refused(x, "many 21", x.mean(0, 21), 1);
        Due.refused(x, "the last above 9999", x.mean(9999, 2), 1);
        Due.refused(x, "far too many", x.mean(1, Integer.MAX_VALUE), 1);
        String days = "loop 3;any;end;ask l e;";
        Due.days(x, "take d;");
        Due.fine(x, "live", x.live(0), 1);
        Due.days(x, days);
        long sum = 0;
        for (int seed = 40; seed < 60; seed++) {
            LikeRegistry y = Due.with(OFFICE);
            Due.days(y, days);
            y.live(seed);
            sum += y.told(9);
        }
        Due.fine(x, "mean", x.mean(40, 20));
        Due.is("mean by its parts", x.top() * 20, sum * x.bottom());
        Due.is("without a common divisor", gcd(x.top(), x.bottom()), 1);
        Due.fine(x, "all stays: who lies", x.told(7), 21);
        Due.fine(x, "all stays: the clerk", x.clerk(1), 5);
        Due.fine(x, "lived is of live() alone", x.lived(0), 1);
        Due.fine(x, "the last seed", x.mean(9999, 1));
        Due.fine(x, "the last seeds", x.mean(9980, 20));
        Due.days(x, "swap 1 2;");
        Due.fraction(x, "always 8", x.mean(0, 20), 8, 1);
        Due.days(x, "");
        Due.fraction(x, "0", x.mean(0, 20), 0, 1);
    }

    private static long gcd(long a, long b) {
        return b == 0 ? a : gcd(b, a % b);
    }

    private static void marks() {
        LikeRegistry x = Due.with(OFFICE);
        Due.refused(x, "no mark", x.undo(), 6);
        Due.daysStand(x, "take a;", 1);
        Due.fine(x, "first", x.mark(), 1);
        x.file(1);
        x.stain(3, 0, true);
        x.weigh(0, 9);
        x.walk(0, 3);
        x.rule(5, 50);
        x.rule(6, 1);
        x.scrawl(1);
        Due.daysStand(x, "take a;take b;", 2);
        Due.fine(x, "second", x.mark(), 2);
        Due.fine(x, "registry", Due.registry(x, "floor 1 by 1;mark z weighs 1;paper y z;"), 1);
        Due.fine(x, "third", x.mark(), 3);
        Due.refused(x, "a fourth", x.mark(), 4);
        x.file(0);
        x.tray(0, 0, 1);
        x.write(0, 0, 5);
        Due.fine(x, "undo", x.undo(), 2);
        Due.fine(x, "y lies nowhere", x.told(7), 0);
        Due.refused(x, "no days there", x.live(0), 6);
        Due.fine(x, "undo", x.undo(), 1);
        Due.fine(x, "wide", x.told(3), 3);
        Due.fine(x, "b", x.cellOf(1), 1);
        Due.fine(x, "near", x.told(5), 50);
        Due.fine(x, "six papers", x.told(1), 6);
        Due.fine(x, "d, a by 9", x.likeness(3, 0), 9);
        Due.daysStand(x, "file e;ask k a;", 2);
        Due.fine(x, "undo", x.undo(), 0);
        Due.refused(x, "b lies nowhere", x.cellOf(1), 6);
        Due.fine(x, "d", x.traits(3), 0);
        Due.fine(x, "weight", x.trait(0, 0), 3);
        Due.fine(x, "likeness", x.likeness(0, 1), 3);
        Due.fine(x, "clerk", x.clerk(0), 0);
        Due.fine(x, "near", x.told(5), 3);
        Due.fine(x, "odds", x.told(6), 8);
        Due.fine(x, "five papers", x.told(1), 5);
        Due.fine(x, "the tray stays", x.read(0, 0), 5);
        Due.fine(x, "the days of the mark", x.live(0), 1);
        Due.fine(x, "a was taken", x.lived(2), 1);
        Due.fine(x, "a mark", x.mark(), 1);
        Due.fine(x, "undo", x.undo(), 0);
        Due.fine(x, "lived stays", x.lived(2), 1);
        Due.refused(x, "no mark is left", x.undo(), 6);
    }
}
