/** Promises 47 to 56: how it lies, what was seen. */
public final class LieTest {
    private static final String OFFICE = "floor 3 by 2;mark r weighs 3;mark s weighs 2;mark t weighs 5;paper a r s;"
        + "paper b r;paper c s t;paper d;paper e r t;clerk k at 0;clerk l at 5;lies a at 0;lies c at 4;lies e at 2;";

    public static void main(String[] args) {
        best();
        gain();
        disorder();
        swaps();
        hide();
        weighed();
        sure();
        Due.end("LieTest");
    }

    private static void best() {
        // Three in a row: the two likest couples beside each other, e in the middle.
        LikeRegistry x = Due.with("floor 5 by 1;mark r weighs 3;mark s weighs 2;mark t weighs 5;paper a r s;"
            + "paper b s t;paper c r t;lies c at 1;lies a at 2;lies b at 3;");
        Due.fine(x, "total now", x.told(9), 5);
        Due.fine(x, "best", x.best(), 8);
        Due.refused(x, "an empty cell", x.bestIn(0), 6);
        Due.fine(x, "a first, not b", x.bestIn(1), 0);
        Due.fine(x, "c between", x.bestIn(2), 2);
        Due.fine(x, "b last", x.bestIn(3), 1);
        Due.refused(x, "cell 5", x.bestIn(5), 1);
        Due.refused(x, "cell -1", x.bestIn(-1), 1);
        Due.fine(x, "it lies as it did", x.paperIn(1), 2);
        x = Due.with("paper a;paper b;lies b at 0;lies a at 1;");
        Due.fine(x, "all as good", x.best(), 0);
        Due.fine(x, "the first by numbers", x.bestIn(0), 0);
        LikeRegistry none = new LikeRegistry();
        Due.fine(none, "nothing lies", none.best(), 0);
        Due.refused(none, "nothing lies", none.bestIn(5), 6);
        // A square of four: the opposite couple is the one least alike.
        x = Due.with("floor 2 by 2;mark m weighs 9;mark n weighs 1;paper a m;paper b n;paper c m n;paper d m;"
            + "lies a at 0;lies b at 1;lies c at 2;lies d at 3;");
        // a c 9, a d 9, c d 9, b c 1: a square holds four couples; a b or d b is 0.
        Due.fine(x, "square", x.best(), 19);
        Due.fine(x, "first", x.bestIn(0), 0);
        Due.fine(x, "second", x.bestIn(1), 1);
        Due.fine(x, "third", x.bestIn(2), 3);
        Due.fine(x, "fourth", x.bestIn(3), 2);
    }

    private static void gain() {
        LikeRegistry x = Due.with(OFFICE);
        Due.fine(x, "gain", x.gain(), 8);
        Due.fine(x, "lesser", x.gainAt(0), 1);
        Due.fine(x, "greater", x.gainAt(1), 2);
        Due.refused(x, "what 2", x.gainAt(2), 1);
        Due.refused(x, "what -1", x.gainAt(-1), 1);
        Due.fine(x, "nothing is swapped", x.told(9), 0);
        x.swap(1, 2);
        Due.refused(x, "none above 0", x.gain(), 6);
        Due.refused(x, "none above 0", x.gainAt(0), 6);
        Due.refused(x, "a wrong number first", x.gainAt(2), 1);
        x = Due.with("floor 4 by 1;mark m weighs 4;paper a m;paper b m;paper c;lies a at 0;lies c at 1;lies b at 3;");
        // a from 0 to 2 is as good as b from 3 to 1, and as a and c change.
        Due.fine(x, "gain", x.gain(), 4);
        Due.fine(x, "the first by the lesser cell", x.gainAt(0), 0);
        Due.fine(x, "then by the greater one", x.gainAt(1), 2);
    }

    private static void disorder() {
        LikeRegistry x = Due.with(OFFICE);
        Due.fine(x, "e ahead of c", x.disorder(), 1);
        x.swap(0, 4);
        // c 0, e 2, a 4.
        Due.fine(x, "two", x.disorder(), 2);
        x.take(0);
        Due.fine(x, "of those that lie", x.disorder(), 0);
        x = Due.with("floor 5 by 1;paper a;paper b;paper c;paper d;lies d at 0;lies c at 1;lies b at 3;lies a at 4;");
        Due.fine(x, "all couples", x.disorder(), 6);
        Due.fine(x, "none lies", new LikeRegistry().disorder(), 0);
    }

    private static void swaps() {
        LikeRegistry x = Due.with(OFFICE);
        Due.fine(x, "one", x.swaps(), 1);
        x.swap(0, 4);
        Due.fine(x, "a ring of three", x.swaps(), 2);
        x.sort();
        Due.fine(x, "none", x.swaps(), 0);
        x = Due.with("floor 5 by 1;paper a;paper b;paper c;paper d;lies d at 0;lies c at 1;lies b at 3;lies a at 4;");
        Due.fine(x, "two rings of two", x.swaps(), 2);
        Due.fine(x, "none lies", new LikeRegistry().swaps(), 0);
    }

    private static void hide() {
        LikeRegistry x = Due.with("floor 3 by 2;paper a;paper b;paper c;paper d;paper e;"
            + "lies a at 0;lies b at 1;lies c at 2;lies d at 4;");
        // b is beside a, c, d.
        Due.fine(x, "b alone", x.hide(31), 1);
        Due.fine(x, "b alone", x.hideSet(31), 2);
        Due.fine(x, "a, c, d", x.hide(13), 0);
        Due.fine(x, "a, c, d", x.hideSet(13), 0);
        Due.fine(x, "a, b: the least as a number", x.hideSet(3), 1);
        Due.fine(x, "one", x.hide(3), 1);
        Due.fine(x, "what does not lie is beside none", x.hideSet(17), 0);
        Due.fine(x, "none", x.hide(0), 0);
        Due.refused(x, "a sixth paper", x.hide(32), 1);
        Due.refused(x, "a sixth paper", x.hideSet(32), 1);
        Due.refused(x, "below 0", x.hide(-1), 1);
        Due.refused(x, "below 0", x.hideSet(-1), 1);
        x = Due.with("floor 4 by 1;paper a;paper b;paper c;paper d;lies a at 0;lies b at 1;lies c at 2;lies d at 3;");
        // a c, b c, b d would do: the least number is a c.
        Due.fine(x, "two of a row", x.hide(15), 2);
        Due.fine(x, "the least as a number", x.hideSet(15), 5);
    }

    private static LikeRegistry seen() {
        return Due.with("mark a weighs 1;mark b weighs 1;mark c weighs 9;paper p a b;paper q a;paper r b;paper s c;");
    }

    private static void put(LikeRegistry x, int tray, int... numbers) {
        x.tray(tray, 1, numbers.length);
        for (int k = 0; k < numbers.length; k++) {
            x.write(tray, k, numbers[k]);
        }
    }

    private static void weighed() {
        LikeRegistry x = seen();
        // p is no less like q than r: the weight of a is no less than that of b.
        put(x, 0, 0, 1, 2, 0, 2, 1);
        Due.fine(x, "all rows", x.weighed(0, 0), 27);
        Due.fine(x, "a no less than b", x.weighed(0, 1), 18);
        Due.fine(x, "a and b alike", x.weighed(0, 2), 9);
        // s is like neither p nor q; q is liker to p than to r, whatever the weights.
        put(x, 1, 3, 0, 1, 1, 0, 2);
        Due.fine(x, "nothing ruled out", x.weighed(1, 2), 27);
        // q is never as like r as p.
        put(x, 2, 1, 2, 0);
        Due.fine(x, "no row", x.weighed(2, 1), 0);
        // The first against the second and the third, not the others among themselves.
        put(x, 3, 1, 0, 1);
        Due.fine(x, "q is as like p as itself", x.weighed(3, 1), 27);
        put(x, 3, 0, 1, 0);
        Due.fine(x, "p is not as like q as itself", x.weighed(3, 1), 0);
        Due.refused(x, "tray 4", x.weighed(4, 0), 1);
        Due.refused(x, "tray -1", x.weighed(-1, 0), 1);
        Due.refused(x, "n -1", x.weighed(0, -1), 1);
        Due.refused(x, "n 21", x.weighed(0, 21), 1);
        Due.refused(x, "too few numbers", x.weighed(0, 3), 3);
        x.write(0, 5, 4);
        Due.refused(x, "no paper", x.weighed(0, 2), 5);
        Due.fine(x, "behind the threes told", x.weighed(0, 1), 18);
        x.write(0, 0, -1);
        Due.refused(x, "no paper", x.weighed(0, 1), 5);
        Due.refused(x, "too few ahead of no paper", x.weighed(0, 3), 3);
        LikeRegistry y = seen();
        Due.refused(y, "missing", y.weighed(0, 20), 2);
        x.tray(0, 3, 60);
        Due.fine(x, "twenty threes", x.weighed(0, 20), 27);
        for (int k = 0; k < 60; k++) {
            x.write(0, k, k % 3);
        }
        Due.fine(x, "twenty times a no less than b", x.weighed(0, 20), 18);
        x.write(0, 58, 2);
        x.write(0, 59, 1);
        Due.fine(x, "the twentieth counts, too", x.weighed(0, 20), 9);
        Due.fine(x, "nineteen", x.weighed(0, 19), 18);
        x.write(0, 0, 1L << 32);
        Due.refused(x, "no paper, though its lower half is one", x.weighed(0, 1), 5);
    }

    private static void sure() {
        LikeRegistry x = Due.with("mark a weighs 1;mark b weighs 1;mark c weighs 9;mark d weighs 1;"
            + "paper p a b c;paper q a;paper r b c;paper s c;paper t a b c d;");
        // a is no less than b and c together: 2 1 1, 3 1 1, 3 1 2, 3 2 1, each with three of d.
        put(x, 0, 0, 1, 2);
        Due.fine(x, "rows", x.weighed(0, 1), 12);
        Due.refused(x, "not the same in all", x.sure(0, 0, 1), 6);
        // a is no less than b and c together, and c no less than a.
        put(x, 1, 0, 1, 2, 0, 3, 1);
        Due.fine(x, "none", x.weighed(1, 2), 0);
        Due.refused(x, "no rows", x.sure(0, 1, 2), 6);
        x = Due.with("mark a weighs 1;mark b weighs 1;mark c weighs 1;mark d weighs 1;"
            + "paper p a b c d;paper q a;paper r b c d;paper s b;");
        // a is no less than b, c and d together: 3, and 1 each.
        put(x, 0, 0, 1, 2);
        Due.fine(x, "one row", x.weighed(0, 1), 1);
        Due.fine(x, "a", x.sure(0, 0, 1), 3);
        Due.fine(x, "b", x.sure(1, 0, 1), 1);
        Due.fine(x, "d", x.sure(3, 0, 1), 1);
        Due.refused(x, "without threes", x.sure(0, 0, 0), 6);
        Due.refused(x, "trait 4", x.sure(4, 0, 1), 1);
        Due.refused(x, "trait -1", x.sure(-1, 0, 1), 1);
        Due.refused(x, "tray 4", x.sure(0, 4, 1), 1);
        Due.refused(x, "n 21", x.sure(0, 0, 21), 1);
        Due.refused(x, "n -1", x.sure(0, 0, -1), 1);
        Due.refused(x, "missing", x.sure(0, 3, 1), 2);
        Due.refused(x, "too few", x.sure(0, 0, 2), 3);
        x.write(0, 2, 4);
        Due.refused(x, "no paper", x.sure(0, 0, 1), 5);
    }
}
