/** Promises 57 to 60: games, odds, the copy of the floor. */
public final class GamesTest {
    public static void main(String[] args) {
        game();
        moveOf();
        smelt();
        copyFloor();
        Due.end("GamesTest");
    }

    private static void game() {
        LikeRegistry x = Due.with("floor 4 by 1;mark m weighs 4;mark n weighs 1;paper a m n;paper b m;paper c n;"
            + "lies a at 0;lies c at 1;lies b at 3;");
        Due.fine(x, "no turns", x.game(0), 1);
        // b to 2: a c 1 and c b 0; a and c change: a in 1, c a 1; none is above.
        Due.fine(x, "one turn", x.game(1), 1);
        x.swap(2, 3);
        // c a b by a and c: 1 + 4.
        Due.fine(x, "one turn", x.game(1), 5);
        Due.fine(x, "move", x.moveOf(1), 1);
        // The man takes b away again, or tears a from c: 1 or 4 is left.
        Due.fine(x, "two turns", x.game(2), 1);
        Due.fine(x, "three turns", x.game(3), 5);
        Due.fine(x, "it lies as it did", x.told(9), 1);
        Due.fine(x, "it lies as it did", x.cellOf(1), 2);
        Due.refused(x, "turns -1", x.game(-1), 1);
        Due.refused(x, "turns 4", x.game(4), 1);
        x = Due.with("floor 1 by 1;paper p;lies p at 0;");
        Due.fine(x, "one cell", x.game(3), 0);
        Due.refused(x, "one cell", x.moveOf(3), 6);
    }

    private static void moveOf() {
        LikeRegistry x = Due.with("floor 2 by 2;mark m weighs 4;paper a m;paper b m;lies a at 0;lies b at 1;");
        // Both change, or go apart: the first that is as good comes ahead of none.
        Due.fine(x, "none is as good, but comes last", x.moveOf(1), 1);
        x = Due.with("floor 3 by 1;mark m weighs 4;paper a m;paper b m;paper c;lies a at 0;lies b at 1;lies c at 2;");
        Due.fine(x, "a and b change", x.moveOf(1), 1);
        x = Due.with("floor 3 by 1;mark m weighs 4;mark n weighs 1;paper a m;paper b m n;paper c n;"
            + "lies a at 0;lies b at 1;lies c at 2;");
        Due.refused(x, "every swap is worse than none", x.moveOf(1), 6);
        Due.fine(x, "none", x.game(1), 5);
        x = Due.with("floor 1 by 4;mark m weighs 4;paper a m;paper b m;lies a at 0;lies b at 3;");
        Due.fine(x, "in three turns: 1 and 2, then 2 and 3, say", x.game(3), 0);
        x = Due.with("floor 1 by 4;mark m weighs 4;paper a m;paper b m;lies a at 0;lies b at 2;");
        Due.fine(x, "by one swap", x.game(1), 4);
        Due.fine(x, "0 with 1", x.moveOf(1), 1);
        x.swap(0, 3);
        // a in 3, b in 2 lie well; 0 and 1 are empty and can't be changed.
        Due.fine(x, "2 with 3 keeps it", x.moveOf(1), 203);
        x = Due.with("floor 5 by 4;mark m weighs 1;paper a m;paper b m;lies a at 17;lies b at 19;");
        Due.fine(x, "100 times the lesser", x.moveOf(1), 1718);
        Due.refused(x, "turns 0", x.moveOf(0), 1);
        Due.refused(x, "turns -1", x.moveOf(-1), 1);
        Due.refused(x, "turns 4", x.moveOf(4), 1);
        LikeRegistry none = new LikeRegistry();
        Due.refused(none, "nothing lies", none.moveOf(2), 6);
    }

    private static void smelt() {
        LikeRegistry x = Due.with("odds 4;mark a weighs 1;mark b weighs 2;mark c weighs 3;paper p a b c;paper q;paper r a;");
        // By a quarter each: 27, 27, 9, 1 of 64.
        Due.fraction(x, "0 or more", x.smelt(0, 0), 1, 1);
        Due.fraction(x, "1 or more", x.smelt(0, 1), 37, 64);
        Due.fraction(x, "2 or more", x.smelt(0, 2), 5, 32);
        Due.fraction(x, "all", x.smelt(0, 3), 1, 64);
        Due.fraction(x, "more than it has", x.smelt(0, 4), 0, 1);
        Due.fraction(x, "8", x.smelt(0, 8), 0, 1);
        Due.fraction(x, "no traits", x.smelt(1, 0), 1, 1);
        Due.fraction(x, "no traits", x.smelt(1, 1), 0, 1);
        x.rule(6, 0);
        Due.fraction(x, "never", x.smelt(0, 1), 0, 1);
        Due.fraction(x, "never, but none is none", x.smelt(0, 0), 1, 1);
        x.rule(6, 16);
        Due.fraction(x, "always", x.smelt(0, 3), 1, 1);
        x.rule(6, 3);
        Due.fraction(x, "three sixteenths", x.smelt(2, 1), 3, 16);
        Due.refused(x, "k -1", x.smelt(0, -1), 1);
        Due.refused(x, "k 9", x.smelt(0, 9), 1);
        Due.refused(x, "paper 3", x.smelt(3, 0), 1);
        Due.refused(x, "paper -1", x.smelt(-1, 0), 1);
        Due.is("the fraction stays", x.bottom(), 16);
        x = Due.with("odds 15;mark a weighs 1;mark b weighs 1;mark c weighs 1;mark d weighs 1;mark e weighs 1;"
            + "mark f weighs 1;mark g weighs 1;mark h weighs 1;paper p a b c d e f g h;");
        Due.fraction(x, "all eight", x.smelt(0, 8), 2562890625L, 4294967296L);
        Due.fraction(x, "seven or more", x.smelt(0, 7), 2562890625L / 15 * 23, 4294967296L);
    }

    private static void copyFloor() {
        LikeRegistry x = Due.with("floor 2 by 2;paper a;paper b;lies a at 2;lies b at 1;");
        Due.refused(x, "missing", x.copyFloor(0), 2);
        Due.refused(x, "tray 4", x.copyFloor(4), 1);
        Due.refused(x, "tray -1", x.copyFloor(-1), 1);
        x.tray(0, 0, 3);
        Due.refused(x, "too few", x.copyFloor(0), 3);
        Due.fine(x, "nothing was written", x.read(0, 0), 0);
        for (int sort = 0; sort < 4; sort++) {
            x.tray(1, sort, 5);
            x.write(1, 4, 9);
            Due.fine(x, "copy", x.copyFloor(1), 4);
            long[] due = {-1, 1, 0, -1, 9};
            for (int k = 0; k < 5; k++) {
                Due.fine(x, "place " + k, x.read(1, k), due[k]);
            }
        }
        x.tray(2, 0, 4);
        Due.fine(x, "just enough", x.copyFloor(2), 4);
    }
}
