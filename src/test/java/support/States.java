/** Objects in states that tests begin from. */
final class States {
    /** Three of five papers lie, none beside another; r 3, s 2, t 5; a r s, b r, c s t, d, e r t. */
    static final String OFFICE = "floor 3 by 2;mark r weighs 3;mark s weighs 2;mark t weighs 5;paper a r s;"
        + "paper b r;paper c s t;paper d;paper e r t;clerk k at 0;clerk l at 5;lies a at 0;lies c at 4;lies e at 2;";
    /** No cell is empty; a, b lie, c does not. */
    static final String FULL = "floor 2 by 1;mark r weighs 3;paper a r;paper b r;paper c r;clerk k at 0;"
        + "lies a at 0;lies b at 1;";
    /** There are papers and a clerk, but none lies. */
    static final String NONE_LIES = "mark r weighs 3;paper a r;paper b r;clerk k at 0;";
    /** As many marks, papers, clerks, cells as there can be. */
    static final String MOST = "floor 5 by 4;mark a weighs 1;mark b weighs 2;mark c weighs 3;mark d weighs 4;"
        + "mark e weighs 5;mark f weighs 6;mark g weighs 7;mark h weighs 9;paper i a b c d e f g h;paper j;paper k;"
        + "paper l;paper m h;paper n;paper o;paper p;clerk q at 0;clerk r at 0;clerk s at 0;clerk t at 19;";

    private States() {
    }

    /** As withEmptyTape(), and twenty bytes on the tape. */
    static LikeRegistry dressed(String text) {
        LikeRegistry x = withEmptyTape(text);
        Due.feed(x, "near 42;            ");
        return x;
    }

    /**
     * With a life lived, a FRACTION told, a FAULT, one MARK of another registry, DAYS of four steps; TRAY 0 of 9 numbers
     * (the first two threes are papers of the office), 1 of 6 (of another sort), 2 of none (of the sort of 0), 3 MISSING.
     */
    static LikeRegistry withEmptyTape(String text) {
        LikeRegistry x = new LikeRegistry();
        Due.registry(x, "odds 3;mark n weighs 4;paper y n;paper z n;clerk j at 1;");
        Due.days(x, "file y;file y;take y;file z;file y;ask j z;loop 99;loop 3;swap 1 1;end;end;");
        x.live(77);
        x.smelt(0, 1);
        x.mark();
        Due.registry(x, text);
        Due.days(x, "loop 2;any;end;sort;");
        Due.days(x, "sort;?");
        long[] numbers = {0, 1, 2, 4, 2, 0, 5, -1, 0};
        x.tray(0, 1, 9);
        for (int k = 0; k < 9; k++) {
            x.write(0, k, numbers[k]);
        }
        x.tray(1, 0, 6);
        x.write(1, 5, 77);
        x.tray(2, 1, 0);
        return x;
    }

    static LikeRegistry office() {
        return dressed(OFFICE);
    }

    static LikeRegistry officeWithEmptyTape() {
        return withEmptyTape(OFFICE);
    }

    static LikeRegistry full() {
        return dressed(FULL);
    }

    static LikeRegistry noneLies() {
        return dressed(NONE_LIES);
    }

    static LikeRegistry most() {
        return dressed(MOST);
    }

    /** All there is but DAYS. */
    static LikeRegistry withoutDays() {
        LikeRegistry x = office();
        x.registry(0);
        Due.registry(x, OFFICE);
        Due.feed(x, "near 42;            ");
        return x;
    }

    static LikeRegistry marked(int many) {
        LikeRegistry x = office();
        for (int k = 1; k < many; k++) {
            x.weigh(0, k);
            x.mark();
        }
        x.weigh(0, 9);
        return x;
    }
}
