/** Promises 30 to 46: likeness, searching, chains. */
public final class LikenessTest {
    private static final String OFFICE = "floor 3 by 2;mark r weighs 3;mark s weighs 2;mark t weighs 5;paper a r s;"
        + "paper b r;paper c s t;paper d;paper e r t;clerk k at 0;clerk l at 5;lies a at 0;lies c at 4;lies e at 2;";

    public static void main(String[] args) {
        likeness();
        smell();
        besideAndKinship();
        likestAndOddest();
        filedIn();
        findAndPaces();
        skillAndToil();
        looking();
        guess();
        chain();
        groups();
        Due.end("LikenessTest");
    }

    private static void likeness() {
        LikeRegistry x = Due.with(OFFICE);
        Due.fine(x, "a, c", x.likeness(0, 2), 2);
        Due.fine(x, "e, a", x.likeness(4, 0), 3);
        Due.fine(x, "a, d", x.likeness(0, 3), 0);
        Due.refused(x, "one and itself", x.likeness(1, 1), 1);
        Due.refused(x, "paper 5", x.likeness(5, 0), 1);
        Due.refused(x, "other 5", x.likeness(0, 5), 1);
        Due.refused(x, "paper -1", x.likeness(-1, 0), 1);
        Due.refused(x, "other -1", x.likeness(0, -1), 1);
    }

    private static void smell() {
        LikeRegistry x = Due.with(OFFICE);
        Due.fine(x, "of e", x.smell(2, 7), 8);
        Due.fine(x, "of c by s", x.smell(4, 2), 2);
        Due.fine(x, "of an empty cell", x.smell(1, 7), 0);
        Due.refused(x, "cell 6", x.smell(6, 0), 1);
        Due.refused(x, "cell -1", x.smell(-1, 0), 1);
        Due.refused(x, "set 8", x.smell(0, 8), 1);
        Due.refused(x, "set -1", x.smell(0, -1), 1);
    }

    private static void besideAndKinship() {
        LikeRegistry x = Due.with(OFFICE);
        x.lay(1, 1);
        Due.fine(x, "beside b", x.beside(1), 21);
        Due.fine(x, "beside e: not around the edge", x.beside(4), 2);
        x.lay(3, 3);
        Due.fine(x, "beside d: not around the edge", x.beside(3), 5);
        Due.fine(x, "kinship of b", x.kinship(1), 6);
        Due.fine(x, "kinship of e", x.kinship(4), 3);
        Due.fine(x, "kinship of d", x.kinship(3), 0);
        x.take(3);
        Due.refused(x, "beside what does not lie", x.beside(3), 7);
        Due.refused(x, "kinship of what does not lie", x.kinship(3), 7);
        Due.refused(x, "beside 5", x.beside(5), 1);
        Due.refused(x, "beside -1", x.beside(-1), 1);
        Due.refused(x, "kinship 5", x.kinship(5), 1);
        Due.refused(x, "kinship -1", x.kinship(-1), 1);
    }

    private static void likestAndOddest() {
        LikeRegistry x = Due.with(OFFICE);
        Due.fine(x, "to c", x.likest(2), 4);
        Due.fine(x, "to a: of b, e the first", x.likest(0), 1);
        Due.fine(x, "to d: the first", x.likest(3), 0);
        Due.refused(x, "paper 5", x.likest(5), 1);
        Due.refused(x, "paper -1", x.likest(-1), 1);
        Due.fine(x, "oddest", x.oddest(), 3);
        x.stain(3, 2, true);
        // a 8, b 6, c 12, d 10, e 16 together.
        Due.fine(x, "oddest", x.oddest(), 1);
        x = Due.with("mark m weighs 1;paper p m;");
        Due.refused(x, "there is no other one", x.likest(0), 6);
        Due.fine(x, "oddest of one", x.oddest(), 0);
        LikeRegistry y = new LikeRegistry();
        Due.refused(y, "no papers", y.oddest(), 6);
        Due.refused(y, "no such paper", y.likest(0), 1);
        y = Due.with("paper p;paper q;");
        Due.fine(y, "of several the first", y.oddest(), 0);
    }

    private static void filedIn() {
        LikeRegistry x = Due.with(OFFICE);
        Due.fine(x, "b", x.filedIn(1), 1);
        Due.fine(x, "e lies; not beside itself", x.filedIn(4), 1);
        x.swap(0, 3);
        // c in 4: empty are 0 (a below: 2), 1 (e aside: 5), 5 (e above: 5).
        Due.fine(x, "c lies", x.filedIn(2), 1);
        Due.fine(x, "it stays where it was", x.cellOf(2), 4);
        Due.refused(x, "paper 5", x.filedIn(5), 1);
        Due.refused(x, "paper -1", x.filedIn(-1), 1);
        x = Due.with("floor 1 by 1;paper p;lies p at 0;");
        Due.refused(x, "no cell is empty", x.filedIn(0), 6);
        // Alone, it would be the likest to itself.
        x = Due.with("floor 5 by 1;mark m weighs 1;paper p m;lies p at 2;");
        Due.fine(x, "not beside itself", x.filedIn(0), 0);
    }

    private static void findAndPaces() {
        LikeRegistry x = Due.with("floor 5 by 1;mark m weighs 1;mark n weighs 2;mark o weighs 4;paper a m;paper b n;"
            + "paper c m n;paper d o;clerk k at 0;lies a at 0;lies b at 1;lies c at 2;lies d at 4;");
        Due.fine(x, "he goes uphill", x.find(0, 7), 2);
        Due.fine(x, "two cells", x.paces(0, 7), 2);
        Due.fine(x, "not to what is as great", x.find(0, 1), 0);
        Due.fine(x, "no cell", x.paces(0, 1), 0);
        Due.fine(x, "of as great ones not on", x.find(0, 2), 1);
        Due.refused(x, "d is out of reach", x.find(0, 4), 6);
        Due.fine(x, "paces also if he finds nothing", x.paces(0, 4), 0);
        Due.fine(x, "he stays", x.clerk(0), 0);
        Due.refused(x, "find by clerk 1", x.find(1, 0), 1);
        Due.refused(x, "find by clerk -1", x.find(-1, 0), 1);
        Due.refused(x, "find by set 8", x.find(0, 8), 1);
        Due.refused(x, "find by set -1", x.find(0, -1), 1);
        Due.refused(x, "paces of clerk 1", x.paces(1, 0), 1);
        Due.refused(x, "paces of clerk -1", x.paces(-1, 0), 1);
        Due.refused(x, "paces by set 8", x.paces(0, 8), 1);
        Due.refused(x, "paces by set -1", x.paces(0, -1), 1);
        x = Due.with("floor 3 by 3;mark m weighs 1;mark n weighs 2;paper a m;paper b m;paper c m;paper d m n;clerk k at 4;"
            + "lies a at 7;lies b at 5;lies c at 3;lies d at 8;");
        Due.fine(x, "of several beside the first", x.find(0, 1), 2);
        Due.fine(x, "from there no way on", x.paces(0, 3), 1);
        x.take(2);
        Due.fine(x, "now by 5 to 8", x.find(0, 3), 3);
        Due.fine(x, "two cells", x.paces(0, 3), 2);
    }

    private static void skillAndToil() {
        LikeRegistry x = Due.with("floor 5 by 1;mark m weighs 1;mark n weighs 2;mark o weighs 4;paper a m;paper b n;"
            + "paper c m n;paper d o;clerk k at 0;lies a at 0;lies b at 1;lies c at 2;lies d at 4;");
        // a: itself, 0 cells. b: itself, 1. c: 2 cells. d: nothing.
        Due.fraction(x, "skill", x.skill(0), 3, 4);
        Due.fraction(x, "toil", x.toil(0), 3, 4);
        x.walk(0, 4);
        Due.fraction(x, "skill", x.skill(0), 1, 4);
        Due.fraction(x, "toil", x.toil(0), 0, 1);
        x.walk(0, 3);
        // a, b: by c, which is as great, and the first step of all; c itself; d itself.
        Due.fraction(x, "skill", x.skill(0), 1, 2);
        Due.fraction(x, "toil", x.toil(0), 1, 1);
        Due.refused(x, "skill of clerk 1", x.skill(1), 1);
        Due.refused(x, "skill of clerk -1", x.skill(-1), 1);
        Due.refused(x, "toil of clerk 1", x.toil(1), 1);
        Due.refused(x, "toil of clerk -1", x.toil(-1), 1);
        Due.is("the fraction stays", x.top(), 1);
        x = Due.with("paper p;clerk k at 0;");
        Due.refused(x, "none lies", x.skill(0), 6);
        Due.refused(x, "none lies", x.toil(0), 6);
        x.lay(0, 0);
        Due.fraction(x, "what has no traits is not found", x.skill(0), 0, 1);
    }

    private static void looking() {
        LikeRegistry x = Due.with(OFFICE);
        int[] due = {4, 2, 0};
        for (int k = 0; k < 3; k++) {
            Due.fine(x, "looking " + k, x.looking(5, k), due[k]);
        }
        Due.fine(x, "as great: by numbers", x.looking(4, 0), 2);
        Due.fine(x, "as great: by numbers", x.looking(0, 1), 2);
        Due.refused(x, "no such", x.looking(5, 3), 6);
        Due.refused(x, "k far away", x.looking(5, Integer.MAX_VALUE), 6);
        Due.refused(x, "k below 0", x.looking(5, -1), 1);
        Due.refused(x, "set 8", x.looking(8, 0), 1);
        Due.refused(x, "set -1", x.looking(-1, 0), 1);
    }

    private static void guess() {
        LikeRegistry x = Due.with(OFFICE);
        Due.fraction(x, "one of two", x.guess(4, 4), 1, 2);
        Due.fraction(x, "the only one", x.guess(5, 4), 1, 1);
        Due.fraction(x, "none of them", x.guess(5, 2), 0, 1);
        Due.fraction(x, "all smell of nothing", x.guess(0, 2), 1, 3);
        Due.refused(x, "it does not lie", x.guess(4, 1), 7);
        Due.refused(x, "set 8", x.guess(8, 1), 1);
        Due.refused(x, "set -1", x.guess(-1, 0), 1);
        Due.refused(x, "paper 5", x.guess(0, 5), 1);
        Due.refused(x, "paper -1", x.guess(0, -1), 1);
        Due.is("the fraction stays", x.bottom(), 3);
    }

    private static void chain() {
        LikeRegistry x = Due.with("near 1;mark a weighs 1;mark b weighs 1;mark c weighs 1;mark d weighs 1;mark e weighs 1;"
            + "paper p a b;paper q c d;paper r b d;paper s a c;paper t d e;paper u;paper v e;");
        // p - r - q and p - s - q: the first by numbers.
        Due.fine(x, "three", x.chain(0, 1), 3);
        Due.fine(x, "first", x.chainAt(0, 1, 0), 0);
        Due.fine(x, "by r", x.chainAt(0, 1, 1), 2);
        Due.fine(x, "last", x.chainAt(0, 1, 2), 1);
        Due.refused(x, "no fourth", x.chainAt(0, 1, 3), 6);
        // p r t v, not p s q t v.
        Due.fine(x, "four", x.chain(0, 6), 4);
        Due.fine(x, "by t", x.chainAt(0, 6, 2), 4);
        Due.fine(x, "back", x.chainAt(6, 0, 1), 4);
        Due.fine(x, "back", x.chainAt(6, 0, 2), 2);
        Due.fine(x, "one and itself", x.chain(5, 5), 1);
        Due.fine(x, "one and itself", x.chainAt(5, 5, 0), 5);
        Due.refused(x, "one and itself has no second", x.chainAt(5, 5, 1), 6);
        Due.refused(x, "none", x.chain(0, 5), 6);
        Due.refused(x, "none", x.chainAt(0, 5, 0), 6);
        Due.refused(x, "paper 7", x.chain(7, 0), 1);
        Due.refused(x, "paper -1", x.chain(-1, 0), 1);
        Due.refused(x, "other 7", x.chain(0, 7), 1);
        Due.refused(x, "other -1", x.chain(0, -1), 1);
        Due.refused(x, "paper 7 at", x.chainAt(7, 0, 0), 1);
        Due.refused(x, "other 7 at", x.chainAt(0, 7, 0), 1);
        Due.refused(x, "k below 0", x.chainAt(0, 1, -1), 1);
        Due.refused(x, "k far away", x.chainAt(0, 1, Integer.MAX_VALUE), 6);
        x.rule(5, 2);
        Due.refused(x, "near 2: none", x.chain(0, 1), 6);
        x.weigh(3, 2);
        Due.fine(x, "d weighs 2: exactly near", x.chain(1, 2), 2);
    }

    private static void groups() {
        LikeRegistry x = Due.with("near 1;mark a weighs 1;mark b weighs 1;mark c weighs 1;"
            + "paper p a;paper q b;paper r c;paper s a b;paper t;");
        Due.fine(x, "p, q by s", x.group(0), 11);
        Due.fine(x, "r alone", x.group(2), 4);
        Due.fine(x, "t alone, though without traits", x.group(4), 16);
        Due.fine(x, "groups", x.groups(), 3);
        x.rule(5, 2);
        Due.fine(x, "all alone", x.groups(), 5);
        Due.refused(x, "paper 5", x.group(5), 1);
        Due.refused(x, "paper -1", x.group(-1), 1);
        Due.fine(x, "no papers", Due.registry(x, ""), 0);
        Due.fine(x, "no groups", x.groups(), 0);
    }
}
