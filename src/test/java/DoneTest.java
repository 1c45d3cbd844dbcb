/** Promises 19 to 29: what is done with papers, traits, clerks. */
public final class DoneTest {
    private static final String OFFICE = "floor 3 by 2;mark r weighs 3;mark s weighs 2;mark t weighs 5;paper a r s;"
        + "paper b r;paper c s t;paper d;paper e r t;clerk k at 0;clerk l at 5;lies a at 0;lies c at 4;lies e at 2;";
    private static final String FULL = "floor 2 by 1;paper a;paper b;paper c;lies a at 0;lies b at 1;";

    public static void main(String[] args) {
        file();
        lay();
        take();
        swap();
        sort();
        stain();
        weigh();
        walk();
        ask();
        scrawl();
        rule();
        Due.end("DoneTest");
    }

    private static void file() {
        LikeRegistry x = Due.with(OFFICE);
        Due.fine(x, "b goes between a and e", x.file(1), 1);
        Due.fine(x, "it lies there", x.paperIn(1), 1);
        Due.refused(x, "b lies", x.file(1), 7);
        Due.fine(x, "d is like nothing: the first", x.file(3), 3);
        Due.refused(x, "paper 5", x.file(5), 1);
        Due.refused(x, "paper -1", x.file(-1), 1);
        x = Due.with(FULL);
        Due.refused(x, "no cell is empty", x.file(2), 6);
        Due.refused(x, "no cell is empty, and it lies: the lesser number", x.file(0), 6);
        Due.fine(x, "nothing is changed", x.told(7), 3);
    }

    private static void lay() {
        LikeRegistry x = Due.with(OFFICE);
        Due.fine(x, "lay", x.lay(1, 5));
        Due.fine(x, "it lies there", x.cellOf(1), 5);
        Due.fine(x, "total", x.told(9), 3);
        Due.refused(x, "it lies", x.lay(1, 1), 7);
        Due.refused(x, "the cell is not empty", x.lay(3, 0), 7);
        Due.refused(x, "paper 5", x.lay(5, 1), 1);
        Due.refused(x, "paper -1", x.lay(-1, 1), 1);
        Due.refused(x, "cell 6", x.lay(3, 6), 1);
        Due.refused(x, "cell -1", x.lay(3, -1), 1);
        Due.refused(x, "d lies nowhere yet", x.cellOf(3), 6);
    }

    private static void take() {
        LikeRegistry x = Due.with(OFFICE);
        Due.fine(x, "take", x.take(2), 4);
        Due.refused(x, "the cell is empty", x.paperIn(4), 6);
        Due.refused(x, "it lies in none", x.take(2), 7);
        Due.refused(x, "paper 5", x.take(5), 1);
        Due.refused(x, "paper -1", x.take(-1), 1);
        Due.fine(x, "those that lie", x.told(7), 17);
    }

    private static void swap() {
        LikeRegistry x = Due.with(OFFICE);
        Due.fine(x, "with an empty one", x.swap(1, 2), 8);
        Due.fine(x, "e", x.cellOf(4), 1);
        Due.fine(x, "the other way round", x.swap(5, 4), 3);
        Due.fine(x, "c", x.cellOf(2), 5);
        Due.fine(x, "two papers", x.swap(5, 0), 5);
        Due.fine(x, "a", x.paperIn(5), 0);
        Due.fine(x, "c", x.paperIn(0), 2);
        Due.refused(x, "a cell and itself", x.swap(0, 0), 7);
        Due.refused(x, "both are empty", x.swap(3, 4), 7);
        Due.refused(x, "cell 6", x.swap(6, 0), 1);
        Due.refused(x, "other 6", x.swap(0, 6), 1);
        Due.refused(x, "cell -1", x.swap(-1, -1), 1);
    }

    private static void sort() {
        LikeRegistry x = Due.with(OFFICE);
        Due.fine(x, "two lie elsewhere", x.sort(), 2);
        Due.fine(x, "cell 0", x.paperIn(0), 0);
        Due.fine(x, "cell 2", x.paperIn(2), 2);
        Due.fine(x, "cell 4", x.paperIn(4), 4);
        Due.fine(x, "c", x.cellOf(2), 2);
        Due.fine(x, "e", x.cellOf(4), 4);
        Due.fine(x, "none does again", x.sort(), 0);
        x = Due.with("paper a;paper b;paper c;lies b at 0;lies c at 3;lies a at 5;");
        Due.fine(x, "all three", x.sort(), 3);
        Due.fine(x, "cell 5", x.paperIn(5), 2);
        Due.fine(x, "none lies", new LikeRegistry().sort(), 0);
    }

    private static void stain() {
        LikeRegistry x = Due.with(OFFICE);
        Due.fine(x, "stain", x.stain(3, 2, true));
        Due.fine(x, "traits", x.traits(3), 4);
        Due.fine(x, "likeness", x.likeness(3, 2), 5);
        Due.refused(x, "it is so", x.stain(3, 2, true), 7);
        Due.refused(x, "it is not so", x.stain(3, 0, false), 7);
        Due.fine(x, "washed", x.stain(0, 0, false));
        Due.fine(x, "traits", x.traits(0), 2);
        Due.fine(x, "likeness", x.likeness(0, 4), 0);
        Due.refused(x, "paper 5", x.stain(5, 0, true), 1);
        Due.refused(x, "paper -1", x.stain(-1, 0, true), 1);
        Due.refused(x, "trait 3", x.stain(0, 3, true), 1);
        Due.refused(x, "trait -1", x.stain(0, -1, true), 1);
    }

    private static void weigh() {
        LikeRegistry x = Due.with(OFFICE);
        Due.fine(x, "weigh", x.weigh(2, 9));
        Due.fine(x, "weight", x.trait(2, 0), 9);
        Due.fine(x, "likeness", x.likeness(2, 4), 9);
        Due.fine(x, "the same again", x.weigh(2, 9));
        Due.fine(x, "1", x.weigh(2, 1));
        Due.refused(x, "0", x.weigh(2, 0), 1);
        Due.refused(x, "10", x.weigh(2, 10), 1);
        Due.refused(x, "trait 3", x.weigh(3, 1), 1);
        Due.refused(x, "trait -1", x.weigh(-1, 1), 1);
        Due.fine(x, "weight", x.trait(2, 0), 1);
    }

    private static void walk() {
        LikeRegistry x = Due.with(OFFICE);
        Due.fine(x, "walk", x.walk(0, 5));
        Due.fine(x, "he is there", x.clerk(0), 5);
        Due.refused(x, "he is there", x.walk(0, 5), 7);
        Due.refused(x, "clerk 2", x.walk(2, 0), 1);
        Due.refused(x, "clerk -1", x.walk(-1, 0), 1);
        Due.refused(x, "cell 6", x.walk(0, 6), 1);
        Due.refused(x, "cell -1", x.walk(0, -1), 1);
    }

    private static void ask() {
        LikeRegistry x = Due.with(OFFICE);
        Due.fine(x, "l finds e above him", x.ask(1, 4), 4);
        Due.fine(x, "he is there", x.clerk(1), 2);
        Due.refused(x, "k finds nothing", x.ask(0, 4), 6);
        Due.fine(x, "he stays", x.clerk(0), 0);
        Due.refused(x, "clerk 2", x.ask(2, 0), 1);
        Due.refused(x, "clerk -1", x.ask(-1, 0), 1);
        Due.refused(x, "a set with a fourth trait", x.ask(0, 8), 1);
        Due.refused(x, "a set below 0", x.ask(0, -1), 1);
        Due.refused(x, "no traits smell of nothing", x.ask(0, 0), 6);
    }

    private static void scrawl() {
        LikeRegistry x = Due.with(OFFICE);
        Due.fine(x, "scrawl", x.scrawl(5), 5);
        Due.fine(x, "traits", x.traits(5), 5);
        Due.refused(x, "it lies nowhere", x.cellOf(5), 6);
        Due.fine(x, "likeness", x.likeness(5, 4), 8);
        Due.refused(x, "a set with a fourth trait", x.scrawl(8), 1);
        Due.refused(x, "a set below 0", x.scrawl(-1), 1);
        Due.fine(x, "scrawl", x.scrawl(0), 6);
        Due.fine(x, "scrawl", x.scrawl(7), 7);
        Due.refused(x, "a ninth", x.scrawl(7), 4);
        Due.refused(x, "a wrong set ahead of a ninth", x.scrawl(8), 1);
        Due.fine(x, "eight", x.told(1), 8);
    }

    private static void rule() {
        LikeRegistry x = new LikeRegistry();
        Due.fine(x, "near 99", x.rule(5, 99));
        Due.fine(x, "near", x.told(5), 99);
        Due.fine(x, "near 1", x.rule(5, 1));
        Due.fine(x, "odds 0", x.rule(6, 0));
        Due.fine(x, "odds", x.told(6), 0);
        Due.fine(x, "odds 16", x.rule(6, 16));
        Due.refused(x, "near 0", x.rule(5, 0), 1);
        Due.refused(x, "near 100", x.rule(5, 100), 1);
        Due.refused(x, "odds -1", x.rule(6, -1), 1);
        Due.refused(x, "odds 17", x.rule(6, 17), 1);
        Due.refused(x, "what 4", x.rule(4, 3), 1);
        Due.refused(x, "what 7", x.rule(7, 3), 1);
        Due.fine(x, "near", x.told(5), 1);
        Due.fine(x, "odds", x.told(6), 16);
    }
}
