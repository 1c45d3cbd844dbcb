/**
 * Parts 2 and 3, promises 5 to 8 and 13 to 60: each sentence that names a boundary (the first of several, none, all, as
 * great, one too few), at it and one step to either side of it.
 */
public final class FloorEdgesTest {
    private static final String ALL_TRAITS = "mark a weighs 9;mark b weighs 9;mark c weighs 9;mark d weighs 9;"
        + "mark e weighs 9;mark f weighs 9;mark g weighs 9;mark h weighs 9;";

    public static void main(String[] args) {
        sortsOfTrays();
        traysMadeAnew();
        pouredAsTheyWere();
        besideByASide();
        likenessOfSets();
        totalOfCouples();
        fileTheFirstOfSeveral();
        fileWhereOneIsEmpty();
        filedInNotBesideItself();
        sortsAllWays();
        swapsWithEmptyOnes();
        smells();
        searchAsLongAsGreater();
        searchTheFirstOfSeveral();
        searchToTheFirstAndTheLastCell();
        findsAboveNothing();
        askGoesThere();
        skillAndToil();
        likestAndOddest();
        lookingByNumbers();
        guessOfAll();
        chainsOfNear();
        chainsTheFirstByNumbers();
        groups();
        bestTheFirst();
        bestOfEight();
        bestOfTwoAndThree();
        bestOfHowItIsNow();
        gainTheFirst();
        disorderAndSwaps();
        hideTheLeast();
        weighedEdges();
        weighedByAllThereCanBe();
        gamesOfTurns();
        gamesAtTheLastCells();
        movesTheFirst();
        smeltOdds();
        largestFloorTakenBack();
        copies();
        stainsAndWeights();
        scrawledOnes();
        Due.end("FloorEdgesTest");
    }

    private static LikeRegistry row(int wide, String marks, String... papers) {
        StringBuilder text = new StringBuilder("floor " + wide + " by 1;" + marks);
        StringBuilder lie = new StringBuilder();
        for (int k = 0; k < papers.length; k++) {
            String name = "p" + "abcdefgh".charAt(k);
            int at = papers[k].indexOf('@');
            text.append("paper ").append(name).append(' ').append(at < 0 ? papers[k] : papers[k].substring(0, at)).append(';');
            lie.append(at < 0 ? "" : "lies " + name + " at " + papers[k].substring(at + 1) + ";");
        }
        return Due.with(text.toString() + lie);
    }

    /** 6, Terms: numbers of 8, 16, 32, 64 bits: cut, at the greatest and the least of each and one step beyond. */
    private static void sortsOfTrays() {
        LikeRegistry x = new LikeRegistry();
        for (int sort = 0; sort < 4; sort++) {
            x.tray(0, sort, 1);
            long greatest = (1L << (8 << sort) - 1) - 1;
            long[] given = {greatest, -greatest - 1, greatest + 1, -greatest - 2, 2 * greatest + 1, 2 * greatest + 2, -1, 0};
            long[] due = {greatest, -greatest - 1, -greatest - 1, greatest, -1, 0, -1, 0};
            for (int k = 0; k < given.length; k++) {
                Due.fine(x, "write", x.write(0, 0, given[k]));
                Due.fine(x, given[k] + " by sort " + sort, x.read(0, 0), due[k]);
            }
        }
    }

    /** 5: a TRAY is a row of so many 0s, whatever it was; the others stay. */
    private static void traysMadeAnew() {
        LikeRegistry x = new LikeRegistry();
        for (int tray = 0; tray < 4; tray++) {
            Due.refused(x, "missing at first", x.read(tray, 0), 2);
            Due.fine(x, "tray", x.tray(tray, tray, 60));
            for (int place = 0; place < 60; place++) {
                Due.fine(x, "write", x.write(tray, place, 7));
            }
        }
        Due.fine(x, "smaller", x.tray(1, 3, 2));
        Due.refused(x, "behind its last", x.read(1, 2), 3);
        Due.fine(x, "larger", x.tray(1, 3, 60));
        for (int place = 0; place < 60; place++) {
            Due.fine(x, "all are 0", x.read(1, place), 0);
        }
        Due.fine(x, "the one ahead", x.read(0, 59), 7);
        Due.fine(x, "the one behind", x.read(2, 59), 7);
        Due.fine(x, "write", x.write(1, 0, 1L << 40));
        Due.fine(x, "its new sort", x.read(1, 0), 1L << 40);
    }

    /** 8: as they were, on its own places, too; the whole row and none of it. */
    private static void pouredAsTheyWere() {
        for (int by = 1; by < 60; by += 29) {
            LikeRegistry x = new LikeRegistry();
            x.tray(3, 3, 60);
            x.tray(2, 3, 60);
            for (int k = 0; k < 60; k++) {
                x.write(3, k, 1000 + k);
            }
            Due.fine(x, "the whole row", x.pour(3, 0, 2, 0, 60));
            Due.fine(x, "upwards", x.pour(3, 0, 3, by, 60 - by));
            Due.fine(x, "downwards", x.pour(2, by, 2, 0, 60 - by));
            for (int k = 0; k < 60; k++) {
                Due.fine(x, "upwards by " + by, x.read(3, k), 1000 + (k < by ? k : k - by));
                Due.fine(x, "downwards by " + by, x.read(2, k), 1000 + (k < 60 - by ? k + by : k));
            }
            Due.fine(x, "one on itself", x.pour(3, 59, 3, 59, 1));
            Due.fine(x, "it stays", x.read(3, 59), 1059 - by);
        }
    }

    /** Part 2: BESIDE each other lie two CELLS with a side in common: not by a corner, not around an edge. */
    private static void besideByASide() {
        for (int wide = 1; wide <= 5; wide++) {
            for (int high = 1; high <= 4; high++) {
                for (int cell = 0; cell < wide * high; cell++) {
                    besideOf(wide, high, cell);
                }
            }
        }
    }

    private static void besideOf(int wide, int high, int cell) {
        LikeRegistry x = Due.with("floor " + wide + " by " + high + ";mark m weighs 7;paper p m;paper q m;");
        x.lay(0, cell);
        for (int other = 0; other < wide * high; other++) {
            if (other == cell) {
                continue;
            }
            boolean side = Math.abs(cell % wide - other % wide) + Math.abs(cell / wide - other / wide) == 1;
            x.lay(1, other);
            String what = cell + " and " + other + " of " + wide + " by " + high;
            Due.is(what + ": p", x.beside(0), side ? 2 : 0);
            Due.is(what + ": q", x.beside(1), side ? 1 : 0);
            Due.is(what + ": kinship", x.kinship(1), side ? 7 : 0);
            Due.is(what + ": total", x.told(9), side ? 7 : 0);
            x.take(1);
        }
    }

    /** Part 2: LIKENESS: WEIGHTS of those that are in both, together: none, one, all eight. */
    private static void likenessOfSets() {
        LikeRegistry x = Due.with(ALL_TRAITS + "paper p a b c d e f g h;paper q a b c d e f g h;paper r h;paper s;paper t a;");
        Due.fine(x, "all", x.likeness(0, 1), 72);
        Due.fine(x, "one", x.likeness(0, 2), 9);
        Due.fine(x, "none in both", x.likeness(2, 4), 0);
        Due.fine(x, "an empty set", x.likeness(0, 3), 0);
        Due.fine(x, "lay", x.lay(0, 0));
        Due.fine(x, "smell by all", x.smell(0, 255), 72);
        Due.fine(x, "by all but one", x.smell(0, 254), 63);
        Due.fine(x, "by none", x.smell(0, 0), 0);
        Due.fine(x, "of an empty cell", x.smell(1, 255), 0);
    }

    /** Part 2: TOTAL: of all couples of PAPERS that lie BESIDE each other, each once. */
    private static void totalOfCouples() {
        LikeRegistry x = Due.with("floor 4 by 2;" + ALL_TRAITS);
        int[] due = {0, 72, 144, 216, 288, 72 * 6, 72 * 8, 72 * 10};
        for (int k = 0; k < 8; k++) {
            Due.fine(x, "scrawl", x.scrawl(255), k);
            Due.fine(x, "lay", x.lay(k, k));
            Due.fine(x, (k + 1) + " in a row, then a second one", x.told(9), due[k]);
        }
        Due.fine(x, "kinship at a corner", x.kinship(0), 144);
        Due.fine(x, "kinship at a side", x.kinship(1), 216);
        Due.fine(x, "all lie", x.told(7), 255);
        Due.fine(x, "none is empty", x.told(8), 0);
        Due.fine(x, "best", x.best(), 720);
        x = Due.with("floor 3 by 3;" + ALL_TRAITS);
        int[] cells = {4, 1, 3, 5, 7};
        for (int k = 0; k < 5; k++) {
            x.scrawl(255);
            x.lay(k, cells[k]);
        }
        Due.fine(x, "four sides", x.kinship(0), 288);
        Due.fine(x, "all four", x.beside(0), 30);
        Due.fine(x, "a cross", x.told(9), 288);
    }

    /** Part 2: FILE: that empty CELL in which its LIKENESS is the greatest, of several the first. */
    private static void fileTheFirstOfSeveral() {
        LikeRegistry x = row(5, "mark m weighs 2;mark n weighs 1;", "m@2", "m", "n", "n@0", "");
        // 1 and 3 are beside pa; 1 is beside pd, too, but that is of no likeness.
        Due.fine(x, "of 1 and 3 the first", x.filedIn(1), 1);
        Due.fine(x, "file", x.file(1), 1);
        Due.fine(x, "like nothing that has an empty cell beside it: the first empty one", x.filedIn(2), 3);
        Due.fine(x, "no traits: the first empty one", x.file(4), 3);
        Due.fine(x, "the last one", x.file(2), 4);
        x = row(5, "mark m weighs 2;mark n weighs 3;", "m@1", "n@4", "m n", "m@3");
        // 0: m 2; 2: m and m 4. Without the one in 3 it were 0: 2, 2: 2, 3: 3.
        Due.fine(x, "two beside it", x.filedIn(2), 2);
        x.take(3);
        Due.fine(x, "the greatest, though not the first", x.file(2), 3);
        x = Due.with("floor 2 by 2;paper p;paper q;");
        Due.fine(x, "nothing lies: the first", x.file(1), 0);
        Due.fine(x, "the next", x.file(0), 1);
        x = Due.with("floor 5 by 4;mark m weighs 1;paper p m;paper q m;paper r m;lies p at 19;");
        Due.fine(x, "above the last", x.file(1), 14);
        Due.fine(x, "beside both", x.filedIn(2), 9);
        x.lay(2, 0);
        Due.fine(x, "a corner", x.take(2), 0);
    }

    /** 19: no CELL is empty; the last empty one. */
    private static void fileWhereOneIsEmpty() {
        for (int empty = 0; empty < 4; empty++) {
            StringBuilder text = new StringBuilder("floor 2 by 2;paper a;paper b;paper c;paper d;paper e;");
            int cell = 0;
            for (String name : "a b c".split(" ")) {
                cell += cell == empty ? 1 : 0;
                text.append("lies ").append(name).append(" at ").append(cell++).append(';');
            }
            LikeRegistry x = Due.with(text.toString());
            Due.fine(x, "of one that lies", x.filedIn(0), empty);
            Due.fine(x, "the only one", x.file(3), empty);
            Due.refused(x, "none", x.file(4), 6);
            Due.refused(x, "none", x.filedIn(4), 6);
            Due.refused(x, "none, for one that lies", x.filedIn(0), 6);
            Due.fine(x, "take", x.take(3), empty);
            Due.fine(x, "one again", x.file(4), empty);
        }
    }

    /** 36: whether it lies or not (it is not BESIDE itself); nothing is filed by that. */
    private static void filedInNotBesideItself() {
        LikeRegistry x = row(5, "mark m weighs 1;mark n weighs 1;", "m n@3", "m@1", "n");
        Due.fine(x, "0 and 2 are beside pb: the first", x.filedIn(0), 0);
        Due.fine(x, "it lies where it was", x.cellOf(0), 3);
        Due.fine(x, "of pb: 2 and 4 are beside pa", x.filedIn(1), 2);
        Due.fine(x, "of pc: 2 and 4 are beside pa", x.filedIn(2), 2);
        x.take(0);
        Due.fine(x, "it does not lie", x.filedIn(0), 0);
        x.take(1);
        Due.fine(x, "nothing lies", x.filedIn(0), 0);
        Due.fine(x, "nothing was filed", x.told(7), 0);
    }

    /** 23: into the CELLS in which PAPERS lie, the least numbers into the first; how many lie elsewhere than ahead. */
    private static void sortsAllWays() {
        LikeRegistry x = new LikeRegistry();
        Due.fine(x, "no papers", x.sort(), 0);
        x = row(5, "", "@4", "");
        Due.fine(x, "one", x.sort(), 0);
        Due.fine(x, "it stays", x.cellOf(0), 4);
        x = row(5, "", "@4", "@0");
        Due.fine(x, "two", x.sort(), 2);
        Due.fine(x, "the lesser one", x.cellOf(0), 0);
        Due.fine(x, "the greater one", x.cellOf(1), 4);
        x = row(5, "", "@1", "", "@4", "@3");
        Due.fine(x, "one of three stays", x.sort(), 2);
        Due.fine(x, "3", x.paperIn(3), 2);
        Due.fine(x, "4", x.paperIn(4), 3);
        Due.refused(x, "empty ones stay empty", x.paperIn(0), 6);
        Due.refused(x, "it lies nowhere", x.cellOf(1), 6);
        Due.fine(x, "sorted", x.sort(), 0);
        x = Due.with("floor 4 by 2;paper a;paper b;paper c;paper d;paper e;paper f;paper g;paper h;lies h at 0;"
            + "lies g at 1;lies f at 2;lies e at 3;lies d at 4;lies c at 5;lies b at 6;lies a at 7;");
        Due.fine(x, "eight, all the wrong way round", x.disorder(), 28);
        Due.fine(x, "by four swaps", x.swaps(), 4);
        Due.fine(x, "all lie elsewhere", x.sort(), 8);
        Due.fine(x, "none is wrong", x.disorder(), 0);
        for (int k = 0; k < 8; k++) {
            Due.fine(x, "paper " + k, x.cellOf(k), k);
        }
    }

    /** 22: what lies in one comes into the other one (either may be empty): TOTAL then. */
    private static void swapsWithEmptyOnes() {
        LikeRegistry x = row(5, "mark m weighs 4;", "m@0", "m@2");
        Due.fine(x, "the first is empty", x.swap(1, 0), 4);
        Due.fine(x, "now in 1", x.cellOf(0), 1);
        Due.refused(x, "0 is empty", x.paperIn(0), 6);
        Due.fine(x, "the second is empty", x.swap(2, 4), 0);
        Due.fine(x, "now in 4", x.paperIn(4), 1);
        Due.fine(x, "none is", x.swap(4, 1), 0);
        Due.fine(x, "pa", x.cellOf(0), 4);
        Due.fine(x, "pb", x.cellOf(1), 1);
        Due.fine(x, "two beside each other", x.swap(1, 3), 4);
        Due.fine(x, "change", x.swap(3, 4), 4);
        Due.fine(x, "as many lie", x.told(7), 3);
        Due.fine(x, "as many are empty", x.told(8), 7);
    }

    /** Part 2: SMELL: LIKENESS of that set to the PAPER that lies there, 0 if it is empty. */
    private static void smells() {
        LikeRegistry x = row(3, "mark m weighs 4;mark n weighs 9;", "m@0", "m n@2");
        int[] due = {0, 4, 0, 4, 0, 0, 0, 0, 0, 4, 9, 13};
        for (int cell = 0; cell < 3; cell++) {
            for (int set = 0; set < 4; set++) {
                Due.fine(x, "cell " + cell + " by " + set, x.smell(cell, set), due[4 * cell + set]);
            }
        }
        x.take(1);
        Due.fine(x, "taken", x.smell(2, 3), 0);
        x.weigh(0, 1);
        Due.fine(x, "by the weight from now on", x.smell(0, 3), 1);
    }

    /** Part 2: SEARCH: as long as that is greater than that of the one in which he is. */
    private static void searchAsLongAsGreater() {
        String marks = "mark m weighs 1;mark n weighs 1;mark o weighs 1;";
        LikeRegistry x = row(5, marks + "clerk k at 0;", "m@0", "m n@1", "m n o@2", "m n o@3");
        Due.fine(x, "two cells, not to what is as great", x.paces(0, 7), 2);
        Due.fine(x, "the first as great", x.find(0, 7), 2);
        Due.fine(x, "by m all are as great", x.paces(0, 1), 0);
        Due.fine(x, "so he stays", x.find(0, 1), 0);
        Due.fine(x, "by n one cell", x.paces(0, 2), 1);
        Due.fine(x, "by o none is greater beside him", x.paces(0, 4), 0);
        Due.refused(x, "though it lies two cells on", x.find(0, 4), 6);
        x.walk(0, 4);
        Due.fine(x, "from an empty cell", x.paces(0, 7), 1);
        Due.fine(x, "the one beside it", x.find(0, 7), 3);
        x.walk(0, 2);
        Due.fine(x, "none is greater", x.paces(0, 7), 0);
        // The longest way: all seven beside one another.
        x = Due.with("floor 4 by 2;mark a weighs 1;mark b weighs 1;mark c weighs 1;mark d weighs 1;mark e weighs 1;"
            + "mark f weighs 1;mark g weighs 1;mark h weighs 1;paper i a;paper j a b;paper k a b c;paper l a b c d;"
            + "paper m a b c d e;paper n a b c d e f;paper o a b c d e f g;paper p a b c d e f g h;clerk q at 0;"
            + "lies i at 0;lies j at 1;lies k at 2;lies l at 3;lies m at 7;lies n at 6;lies o at 5;lies p at 4;");
        // From 0 the greatest beside is p in 4.
        Due.fine(x, "one cell", x.paces(0, 255), 1);
        x.swap(4, 0);
        Due.fine(x, "he is there", x.paces(0, 255), 0);
        x = Due.with("floor 5 by 2;mark a weighs 1;mark b weighs 1;mark c weighs 1;mark d weighs 1;mark e weighs 1;"
            + "mark f weighs 1;mark g weighs 1;mark h weighs 1;paper j a b;paper k a b c;paper l a b c d;"
            + "paper m a b c d e;paper n a b c d e f;paper o a b c d e f g;paper p a b c d e f g h;clerk q at 0;"
            + "lies j at 1;lies k at 2;lies l at 3;lies m at 4;lies n at 9;lies o at 8;lies p at 7;");
        // 0, 1, then of k in 2 alone, then p in 7 below it.
        Due.fine(x, "three cells", x.paces(0, 255), 3);
        x.swap(7, 5);
        Due.fine(x, "p below him", x.find(0, 255), 6);
        x.take(6);
        // 0, 1, 2, then 3 (7 is empty), then 8 below it.
        Due.fine(x, "five cells", x.paces(0, 255), 4);
        Due.fine(x, "o", x.find(0, 255), 5);
        x.take(5);
        Due.fine(x, "by 4 to 9", x.paces(0, 255), 5);
        Due.fine(x, "n", x.find(0, 255), 4);
    }

    /** Part 2: SEARCH: to that one with the greatest SMELL, of several the first. */
    private static void searchTheFirstOfSeveral() {
        int[] around = {1, 3, 5, 7};
        for (int first = 0; first < 4; first++) {
            for (int second = first + 1; second < 4; second++) {
                LikeRegistry x = Due.with("floor 3 by 3;mark m weighs 2;mark n weighs 1;paper p m;paper q m;paper r n;"
                    + "clerk k at 4;lies q at " + around[first] + ";lies p at " + around[second] + ";");
                Due.fine(x, "of two the first by cells", x.find(0, 3), 1);
                x.stain(0, 1, true);
                Due.fine(x, "the greater one", x.find(0, 3), 0);
                x.stain(1, 1, true);
                x.stain(0, 1, false);
                Due.fine(x, "the greater one", x.find(0, 3), 1);
                Due.fine(x, "one cell", x.paces(0, 3), 1);
            }
        }
    }

    /** Part 2: SEARCH, ASK to what lies in the first CELL, in the last one; PAPER 0, too; never off the floor. */
    private static void searchToTheFirstAndTheLastCell() {
        LikeRegistry x = Due.with("floor 5 by 4;mark m weighs 1;paper p m;paper q m;clerk k at 1;clerk l at 5;clerk c at 18;"
            + "clerk d at 14;lies p at 0;lies q at 19;");
        int[] due = {0, 0, 1, 1};
        for (int clerk = 0; clerk < 4; clerk++) {
            Due.fine(x, "find", x.find(clerk, 1), due[clerk]);
            Due.fine(x, "one cell", x.paces(clerk, 1), 1);
            Due.fine(x, "ask", x.ask(clerk, 1), due[clerk]);
            Due.fine(x, "he is there", x.clerk(clerk), 19 * due[clerk]);
        }
        // A smaller floor in place of the larger one: twice, since an object may hold two by turns.
        for (int time = 0; time < 2; time++) {
            for (int cell = 0; cell < 20; cell++) {
                x.walk(0, cell);
                x.find(0, 1);
            }
            Due.fine(x, "registry", Due.registry(x, "floor 5 by 3;mark m weighs 1;paper p m;clerk k at 14;"), 1);
            Due.refused(x, "nothing below the last row", x.find(0, 1), 6);
            Due.fine(x, "no cell", x.paces(0, 1), 0);
            Due.fine(x, "registry", Due.registry(x, "floor 5 by 4;mark m weighs 1;paper p m;clerk k at 14;lies p at 19;"), 1);
        }
    }

    /** Part 2: he FINDS what lies there, if its SMELL is above 0. */
    private static void findsAboveNothing() {
        LikeRegistry x = row(3, "mark m weighs 1;mark n weighs 1;clerk k at 1;", "n@1", "m@2");
        Due.refused(x, "by nothing", x.find(0, 0), 6);
        Due.fine(x, "no cells by nothing", x.paces(0, 0), 0);
        Due.fine(x, "by n", x.find(0, 2), 0);
        Due.fine(x, "by m", x.find(0, 1), 1);
        x.take(1);
        Due.refused(x, "what lies there does not smell", x.find(0, 1), 6);
        x.take(0);
        Due.refused(x, "nothing lies there", x.find(0, 3), 6);
        Due.fine(x, "no cells", x.paces(0, 3), 0);
    }

    /** Part 2: ASK: he goes there, if he FINDS something. */
    private static void askGoesThere() {
        LikeRegistry x = row(5, "mark m weighs 1;mark n weighs 1;clerk k at 0;clerk l at 0;", "m@0", "m n@1", "m@4");
        Due.refused(x, "nothing", x.ask(0, 0), 6);
        Due.fine(x, "he stays", x.clerk(0), 0);
        Due.fine(x, "where he is", x.ask(0, 1), 0);
        Due.fine(x, "he stays", x.clerk(0), 0);
        Due.fine(x, "beside", x.ask(0, 2), 1);
        Due.fine(x, "he is there", x.clerk(0), 1);
        Due.fine(x, "the other one is not", x.clerk(1), 0);
        Due.fine(x, "not to what is as great", x.ask(0, 1), 1);
        x.walk(0, 2);
        x.take(1);
        Due.refused(x, "two cells off", x.ask(0, 1), 6);
        Due.fine(x, "he stays", x.clerk(0), 2);
    }

    /** 39, 40: of the PAPERS that lie; toil: also if he finds nothing. */
    private static void skillAndToil() {
        LikeRegistry x = row(5, "mark m weighs 1;mark n weighs 1;clerk k at 2;", "m@1", "n@3", "m n", "m@4", "");
        // pa: one cell; pb: one cell; pd: by m to pa, one cell.
        Due.fraction(x, "two of three", x.skill(0), 2, 3);
        Due.fraction(x, "one cell each", x.toil(0), 1, 1);
        x.lay(4, 0);
        Due.fraction(x, "two of four", x.skill(0), 1, 2);
        Due.fraction(x, "three cells by four", x.toil(0), 3, 4);
        x.take(0);
        x.take(1);
        x.take(3);
        Due.fraction(x, "what has no traits is not found", x.skill(0), 0, 1);
        Due.fraction(x, "no cells", x.toil(0), 0, 1);
        x.take(4);
        Due.refused(x, "none lies", x.skill(0), 6);
        Due.refused(x, "none lies", x.toil(0), 6);
    }

    /** 34, 35: lying or not, of several the first. */
    private static void likestAndOddest() {
        LikeRegistry x = row(5, "mark m weighs 3;mark n weighs 3;mark o weighs 1;", "m", "n", "m n", "m o", "o");
        Due.fine(x, "pc and pd: the first", x.likest(0), 2);
        Due.fine(x, "pc", x.likest(1), 2);
        Due.fine(x, "pa, pb, pd: the first", x.likest(2), 0);
        Due.fine(x, "pa ahead of pc", x.likest(3), 0);
        Due.fine(x, "pd, by o", x.likest(4), 3);
        // pa 6, pb 3, pc 9, pd 7, pe 1.
        Due.fine(x, "the least", x.oddest(), 4);
        x.weigh(2, 3);
        // pa 6, pb 3, pc 9, pd 9, pe 3.
        Due.fine(x, "pb and pe: the first", x.oddest(), 1);
        // Pa and pb alone, then each is like the other one alone.
        LikeRegistry y = row(3, "mark m weighs 2;mark n weighs 1;", "m", "m n", "n");
        // pa 2, pb 3, pc 1.
        Due.fine(y, "the last one", y.oddest(), 2);
        y.weigh(1, 2);
        Due.fine(y, "pa and pc: the first", y.oddest(), 0);
        y.weigh(1, 3);
        Due.fine(y, "pa", y.oddest(), 0);
        x.stain(1, 1, false);
        Due.fine(x, "of none it is like: the first", x.likest(1), 0);
        x.stain(0, 0, false);
        Due.fine(x, "pa and pb are like none: the first", x.oddest(), 0);
        Due.fine(x, "not itself", x.likest(0), 1);
    }

    /** 41: by the SMELL of their CELLS, the greatest first, of as great by numbers; those that lie alone. */
    private static void lookingByNumbers() {
        LikeRegistry x = row(5, "mark m weighs 1;mark n weighs 2;", "m@4", "n@3", "m n", "m@0", "m n@1", "@2");
        int[][] due = {{0, 1, 3, 4, 5}, {0, 3, 4, 1, 5}, {1, 4, 0, 3, 5}, {4, 1, 0, 3, 5}};
        for (int set = 0; set < 4; set++) {
            for (int k = 0; k < 5; k++) {
                Due.fine(x, "by " + set + " the " + k, x.looking(set, k), due[set][k]);
            }
            Due.refused(x, "no such", x.looking(set, 5), 6);
        }
        x = Due.with("floor 4 by 2;" + ALL_TRAITS);
        for (int k = 0; k < 8; k++) {
            x.scrawl(1 << k);
            x.lay(k, 7 - k);
        }
        for (int k = 0; k < 8; k++) {
            Due.fine(x, "all as great", x.looking(255, k), k);
            Due.fine(x, "the last ahead", x.looking(128, k), k == 0 ? 7 : k - 1);
        }
        Due.refused(x, "a ninth", x.looking(255, 8), 6);
    }

    /** 42: 1 by how many have the greatest SMELL, if a PAPER is one of them, else 0. */
    private static void guessOfAll() {
        LikeRegistry x = Due.with("floor 4 by 2;" + ALL_TRAITS);
        for (int k = 0; k < 8; k++) {
            x.scrawl(1);
            x.lay(k, k);
            Due.fraction(x, (k + 1) + " as great", x.guess(1, 0), 1, k + 1);
            Due.fraction(x, (k + 1) + " of nothing", x.guess(2, k), 1, k + 1);
        }
        x.stain(3, 1, true);
        Due.fraction(x, "the only one", x.guess(3, 3), 1, 1);
        Due.fraction(x, "none of them", x.guess(3, 4), 0, 1);
        Due.fraction(x, "by the other one", x.guess(1, 4), 1, 8);
        x.take(3);
        Due.fraction(x, "what does not lie does not count", x.guess(3, 4), 1, 7);
    }

    /** 43, part 3: each with a LIKENESS of NEAR or more to that ahead: exactly NEAR, one less, one more. */
    private static void chainsOfNear() {
        LikeRegistry x = row(1, "mark m weighs 4;", "m@0", "m", "");
        x.rule(5, 3);
        Due.fine(x, "one more", x.chain(0, 1), 2);
        x.rule(5, 4);
        Due.fine(x, "exactly, whether they lie or not", x.chain(0, 1), 2);
        Due.fine(x, "the other way round", x.chain(1, 0), 2);
        x.rule(5, 5);
        Due.refused(x, "one less", x.chain(0, 1), 6);
        Due.fine(x, "one and itself, however unlike all", x.chain(2, 2), 1);
        x.weigh(0, 5);
        Due.fine(x, "by the weight from now on", x.chain(0, 1), 2);
        // Eight in a row: each like the next one alone.
        x = Due.with("near 99;" + ALL_TRAITS);
        for (int k = 0; k < 8; k++) {
            x.scrawl(k == 0 ? 1 : k == 7 ? 64 : 3 << k - 1);
        }
        Due.refused(x, "99 is more than any", x.chain(0, 1), 6);
        x.rule(5, 9);
        for (int k = 0; k < 8; k++) {
            Due.fine(x, "to the " + k, x.chain(0, k), k + 1);
            Due.fine(x, "from the " + k, x.chain(k, 0), k + 1);
            Due.fine(x, "the " + k, x.chainAt(0, 7, k), k);
            Due.fine(x, "back the " + k, x.chainAt(7, 0, k), 7 - k);
        }
        Due.refused(x, "no ninth", x.chainAt(0, 7, 8), 6);
        Due.fine(x, "all in one", x.group(3), 255);
        x.stain(3, 3, false);
        Due.refused(x, "torn", x.chain(0, 7), 6);
        Due.fine(x, "the first half", x.group(0), 15);
        Due.fine(x, "the second half", x.group(7), 240);
        Due.fine(x, "two", x.groups(), 2);
    }

    /** 43, 44: the fewest; of several the first by numbers. */
    private static void chainsTheFirstByNumbers() {
        // Squares: 0 by 3, 4 (both like 0 and 1), not by 2, which is like 3 and 4 alone.
        LikeRegistry x = Due.with("near 1;" + ALL_TRAITS + "paper i a b;paper j c d;paper k e f;paper l a c e;paper m b d f;");
        Due.fine(x, "three", x.chain(0, 1), 3);
        Due.fine(x, "by l, not by m", x.chainAt(0, 1, 1), 3);
        Due.fine(x, "back by l, too", x.chainAt(1, 0, 1), 3);
        Due.fine(x, "l and m by i, not by j, k", x.chainAt(3, 4, 1), 0);
        Due.fine(x, "m and l by i, not by j, k", x.chainAt(4, 3, 1), 0);
        x.stain(3, 2, false);
        Due.fine(x, "l is torn from j: by m", x.chainAt(0, 1, 1), 4);
        x.stain(3, 6, true);
        x.stain(4, 6, true);
        Due.fine(x, "like each other, by themselves", x.chain(3, 4), 2);
        x.stain(0, 2, true);
        Due.fine(x, "the fewest ahead of the first by numbers", x.chain(0, 1), 2);
        // Four: the second counts first, then the third.
        x = Due.with("near 1;" + ALL_TRAITS + "paper i a b;paper j g h;paper k d g;paper l c h;paper m a c;paper n b d;");
        Due.fine(x, "four", x.chain(0, 1), 4);
        Due.fine(x, "by m ahead of n", x.chainAt(0, 1, 1), 4);
        Due.fine(x, "then l, though k is less", x.chainAt(0, 1, 2), 3);
        Due.fine(x, "back by k ahead of l", x.chainAt(1, 0, 1), 2);
        Due.fine(x, "then n", x.chainAt(1, 0, 2), 5);
    }

    /** 45, 46: PAPERS are in one, if there is a CHAIN. */
    private static void groups() {
        LikeRegistry x = new LikeRegistry();
        Due.fine(x, "none", x.groups(), 0);
        x = Due.with(ALL_TRAITS);
        for (int k = 0; k < 8; k++) {
            x.scrawl(1 << k);
            Due.fine(x, "each alone", x.groups(), k + 1);
            Due.fine(x, "each alone", x.group(k), 1 << k);
        }
        x.stain(7, 0, true);
        Due.fine(x, "the first and the last", x.group(0), 129);
        Due.fine(x, "the first and the last", x.group(7), 129);
        Due.fine(x, "seven", x.groups(), 7);
    }

    /** 47, 48: the greatest TOTAL; of several the first by what lies in the first of these CELLS, then in the second. */
    private static void bestTheFirst() {
        LikeRegistry x = row(5, "mark m weighs 2;", "m@3", "m@0", "@4");
        // Cells 0, 3, 4: only 3 and 4 are beside each other.
        Due.fine(x, "m and m in 3, 4", x.best(), 2);
        Due.fine(x, "pc in 0", x.bestIn(0), 2);
        Due.fine(x, "pa in 3", x.bestIn(3), 0);
        Due.fine(x, "pb in 4", x.bestIn(4), 1);
        Due.refused(x, "nothing", x.bestIn(1), 6);
        x.take(2);
        Due.fine(x, "two apart", x.best(), 0);
        Due.fine(x, "the first by numbers", x.bestIn(0), 0);
        Due.refused(x, "an empty cell now", x.bestIn(4), 6);
        x.take(1);
        Due.fine(x, "one", x.bestIn(3), 0);
        x.take(0);
        Due.fine(x, "none", x.best(), 0);
        Due.refused(x, "none", x.bestIn(3), 6);
        x = row(4, "mark m weighs 2;mark n weighs 2;", "n@0", "m@1", "m n@2", "m n@3");
        // c d are 4, all others 2 but a b: of b c d a (8), b d c a, a c d b, a d c b the first is a c d b.
        Due.fine(x, "eight", x.best(), 8);
        int[] due = {0, 2, 3, 1};
        for (int cell = 0; cell < 4; cell++) {
            Due.fine(x, "the first", x.bestIn(cell), due[cell]);
        }
        x.weigh(1, 1);
        Due.fine(x, "by the weights from now on", x.best(), 6);
        x.stain(0, 1, false);
        Due.fine(x, "by the traits from now on", x.best(), 5);
        x.swap(0, 1);
        Due.fine(x, "how it lies does not matter", x.best(), 5);
        Due.fine(x, "nor for what is first", x.bestIn(0), 0);
    }

    /** 47, 48: eight PAPERS, all alike or none: the first by numbers. */
    private static void bestOfEight() {
        for (int set : new int[] {0, 255}) {
            LikeRegistry x = Due.with("floor 5 by 4;" + ALL_TRAITS);
            int[] cells = {19, 18, 14, 13, 9, 8, 4, 3};
            for (int k = 0; k < 8; k++) {
                x.scrawl(set);
                x.lay(k, cells[k]);
            }
            Due.fine(x, "best", x.best(), set == 0 ? 0 : 720);
            for (int k = 0; k < 8; k++) {
                int[] first = {3, 4, 8, 9, 13, 14, 18, 19};
                Due.fine(x, "the " + k, x.bestIn(first[k]), k);
            }
            Due.refused(x, "between them", x.bestIn(5), 6);
        }
    }

    /** 47, 48: two and three beside each other, the first PAPER first, in the middle and last. */
    private static void bestOfTwoAndThree() {
        LikeRegistry x = row(2, "mark m weighs 4;", "m@1", "m@0");
        Due.fine(x, "two", x.best(), 4);
        Due.fine(x, "the first", x.bestIn(0), 0);
        Due.fine(x, "the second", x.bestIn(1), 1);
        String[][] papers = {{"m n@0", "m@1", "n@2"}, {"m@0", "m n@1", "n@2"}, {"m@0", "n@1", "m n@2"}};
        int[][] due = {{1, 0, 2}, {0, 1, 2}, {0, 2, 1}};
        for (int k = 0; k < 3; k++) {
            x = row(3, "mark m weighs 4;mark n weighs 3;", papers[k]);
            Due.fine(x, "three", x.best(), 7);
            for (int cell = 0; cell < 3; cell++) {
                Due.fine(x, "cell " + cell, x.bestIn(cell), due[k][cell]);
            }
        }
        // 3 by 2 with a hole: cells 0, 1, 3, 4, 5; 4 has three beside it.
        x = Due.with("floor 3 by 2;mark a weighs 9;mark b weighs 8;mark c weighs 7;paper p;paper q a;paper r b;paper s c;"
            + "paper t a b c;lies p at 4;lies q at 0;lies r at 1;lies s at 3;lies t at 5;");
        Due.fine(x, "all three are beside the fifth", x.best(), 24);
        Due.fine(x, "it lies in 4", x.bestIn(4), 4);
        Due.fine(x, "the corner is for the first", x.bestIn(0), 0);
        Due.fine(x, "by numbers", x.bestIn(1), 1);
    }

    /** 47, 48: of how all is now, whatever was asked ahead. */
    private static void bestOfHowItIsNow() {
        String text = "mark m weighs 4;mark n weighs 1;paper p m;paper q m;paper r n;paper s n;lies p at 0;lies q at 2;";
        LikeRegistry x = Due.with("floor 2 by 2;" + text);
        Due.fine(x, "one below the other", x.best(), 4);
        Due.fine(x, "registry", Due.registry(x, "floor 3 by 2;" + text), 4);
        Due.fine(x, "two cells off", x.best(), 0);
        Due.fine(x, "registry", Due.registry(x, "floor 1 by 4;" + text), 4);
        Due.fine(x, "two cells off", x.best(), 0);
        Due.fine(x, "registry", Due.registry(x, "floor 2 by 4;" + text), 4);
        Due.fine(x, "one below the other", x.best(), 4);
        x.lay(2, 5);
        x.lay(3, 7);
        Due.fine(x, "two couples", x.best(), 5);
        x.weigh(1, 3);
        Due.fine(x, "the second one by more", x.best(), 7);
        x.stain(3, 1, false);
        Due.fine(x, "the second one by nothing", x.best(), 4);
        x.mark();
        x.take(1);
        Due.fine(x, "no couple", x.best(), 0);
        x.undo();
        Due.fine(x, "as it was", x.best(), 4);
        x = Due.with("floor 4 by 2;" + ALL_TRAITS);
        for (int k = 0; k < 8; k++) {
            x.scrawl(255);
            x.lay(k, k);
        }
        for (int weight = 9; weight >= 1; weight--) {
            x.weigh(0, weight);
            Due.fine(x, "all alike", x.best(), 10 * (63 + weight));
        }
    }

    /** 49, 50: at least one of them not empty; of several the first by the lesser CELL, then the greater one. */
    private static void gainTheFirst() {
        LikeRegistry x = row(5, "mark m weighs 2;", "m@0", "m@4");
        // 0 with 3, 1 with 4 are as good.
        Due.fine(x, "gain", x.gain(), 2);
        Due.fine(x, "the lesser", x.gainAt(0), 0);
        Due.fine(x, "the greater", x.gainAt(1), 3);
        x.swap(0, 3);
        Due.refused(x, "none above 0", x.gain(), 6);
        Due.refused(x, "none above 0", x.gainAt(1), 6);
        x.swap(3, 2);
        // 2 with 3, 1 with 4, 3 with 4: 1 with 4 has the least lesser cell.
        Due.fine(x, "gain", x.gain(), 2);
        Due.fine(x, "the lesser", x.gainAt(0), 1);
        Due.fine(x, "the greater", x.gainAt(1), 4);
        x = row(4, "mark m weighs 2;mark n weighs 1;", "m n@0", "n@1", "m@2", "@3");
        // By 0 and 1: b a c d is 1 and 2; 0 and 3, 1 and 2 gain 1.
        Due.fine(x, "the greatest", x.gain(), 2);
        Due.fine(x, "the lesser", x.gainAt(0), 0);
        Due.fine(x, "the greater", x.gainAt(1), 1);
        Due.fine(x, "nothing is swapped", x.told(9), 1);
        x = row(3, "mark m weighs 1;", "m@0", "m@2");
        Due.fine(x, "by one", x.gain(), 1);
        Due.fine(x, "the lesser", x.gainAt(0), 0);
        Due.fine(x, "the greater", x.gainAt(1), 1);
        x = row(2, "mark m weighs 2;", "m@0");
        Due.refused(x, "one alone", x.gain(), 6);
        x = row(1, "mark m weighs 2;", "m@0", "m");
        Due.refused(x, "one cell", x.gain(), 6);
    }

    /** 51, 52: couples that lie the wrong way round; the fewest SWAPS by which it is as SORT makes it. */
    private static void disorderAndSwaps() {
        String eight = "floor 5 by 4;paper a;paper b;paper c;paper d;paper e;paper f;paper g;paper h;";
        int[][] ways = {{0, 1, 2, 3, 4, 5, 6, 7}, {1, 2, 3, 4, 5, 6, 7, 0}, {7, 0, 1, 2, 3, 4, 5, 6}, {7, 6, 5, 4, 3, 2, 1, 0},
            {1, 0, 2, 3, 4, 5, 6, 7}, {0, 1, 2, 3, 4, 5, 7, 6}, {1, 0, 3, 2, 5, 4, 7, 6}, {7, 1, 2, 3, 4, 5, 6, 0},
            {2, 0, 1, 5, 3, 4, 6, 7}};
        int[] disorder = {0, 7, 7, 28, 1, 1, 4, 13, 4};
        int[] swaps = {0, 7, 7, 4, 1, 1, 4, 1, 4};
        int[] cells = {0, 2, 3, 7, 11, 12, 18, 19};
        for (int way = 0; way < ways.length; way++) {
            LikeRegistry x = Due.with(eight);
            for (int k = 0; k < 8; k++) {
                x.lay(ways[way][k], cells[k]);
            }
            Due.fine(x, "disorder of " + way, x.disorder(), disorder[way]);
            Due.fine(x, "swaps of " + way, x.swaps(), swaps[way]);
        }
        LikeRegistry x = row(5, "", "@4", "", "@0");
        Due.fine(x, "of those that lie", x.disorder(), 1);
        Due.fine(x, "of those that lie", x.swaps(), 1);
        x.swap(4, 3);
        Due.fine(x, "in whatever cells", x.swaps(), 1);
        x.take(0);
        Due.fine(x, "one", x.disorder(), 0);
        Due.fine(x, "one", x.swaps(), 0);
    }

    /** 53, 54: the fewest; of several sets of those the least as a number; none, one, two, all. */
    private static void hideTheLeast() {
        LikeRegistry x = Due.with("floor 4 by 2;");
        for (int k = 0; k < 8; k++) {
            x.scrawl(0);
            x.lay(k, k);
        }
        // A board of two colours: 0 2 5 7 and 1 3 4 6.
        Due.fine(x, "half of all", x.hide(255), 4);
        Due.fine(x, "the least as a number", x.hideSet(255), 2 + 8 + 16 + 64);
        Due.fine(x, "one colour", x.hideSet(1 + 4 + 32 + 128), 0);
        Due.fine(x, "the other one", x.hideSet(2 + 8 + 16 + 64), 0);
        Due.fine(x, "the other one and one more", x.hideSet(1 + 2 + 8 + 16 + 64), 1);
        Due.fine(x, "none", x.hideSet(0), 0);
        Due.fine(x, "none", x.hide(0), 0);
        for (int k = 0; k < 8; k++) {
            Due.fine(x, "one alone", x.hide(1 << k), 0);
            Due.fine(x, "one alone", x.hideSet(1 << k), 0);
        }
        Due.fine(x, "0 and 1: the lesser one", x.hideSet(3), 1);
        Due.fine(x, "6 and 7: the lesser one", x.hideSet(192), 64);
        Due.fine(x, "3 and 7: the lesser one", x.hideSet(136), 8);
        Due.fine(x, "3 and 4 are not beside each other", x.hideSet(24), 0);
        Due.fine(x, "0 and 5 are not", x.hideSet(33), 0);
        Due.fine(x, "0, 1, 2: that between", x.hideSet(7), 2);
        Due.fine(x, "one", x.hide(7), 1);
        x.take(1);
        Due.fine(x, "taken away it is beside none", x.hideSet(7), 0);
        Due.fine(x, "all still lie but that", x.told(7), 253);
    }

    private static void put(LikeRegistry x, int... numbers) {
        x.tray(0, 0, numbers.length);
        for (int k = 0; k < numbers.length; k++) {
            x.write(0, k, numbers[k]);
        }
    }

    /** 55, 56: no less; rows of WEIGHTS of 1 to 3 for all TRAITS: none of them, eight of them; a PAPER twice. */
    private static void weighedEdges() {
        LikeRegistry x = Due.with("paper p;paper q;");
        put(x, 0, 1, 0, 1, 1, 1);
        Due.fine(x, "no traits: one row", x.weighed(0, 0), 1);
        Due.fine(x, "no traits: one row", x.weighed(0, 2), 1);
        Due.refused(x, "no trait", x.sure(0, 0, 0), 1);
        x = Due.with(ALL_TRAITS + "paper p a b c d e f g h;paper q a;paper r b c d e f g h;paper s b c d;");
        put(x, 0, 1, 3, 0, 1, 2, 0, 1, 3);
        Due.fine(x, "eight traits", x.weighed(0, 0), 6561);
        // a is 3 and the three of s are 1: 81 rows of the others.
        Due.fine(x, "a no less than b, c, d", x.weighed(0, 1), 81);
        Due.fine(x, "sure of a", x.sure(0, 0, 1), 3);
        Due.fine(x, "sure of d", x.sure(3, 0, 1), 1);
        Due.refused(x, "e may be 1 to 3", x.sure(4, 0, 1), 6);
        Due.refused(x, "h may be 1 to 3", x.sure(7, 0, 1), 6);
        Due.fine(x, "a no less than seven: none", x.weighed(0, 2), 0);
        Due.refused(x, "none", x.sure(0, 0, 2), 6);
        // As like the one as the other: no less.
        put(x, 0, 1, 1, 0, 0, 0);
        Due.fine(x, "the second is the third", x.weighed(0, 1), 6561);
        put(x, 0, 0, 3, 0, 3, 0, 0, 3, 3);
        Due.fine(x, "one and itself", x.weighed(0, 1), 6561);
        Due.fine(x, "not as like another as itself", x.weighed(0, 2), 0);
        put(x, 1, 0, 2);
        Due.fine(x, "the second is like the first, not the third", x.weighed(0, 1), 6561);
        put(x, 1, 2, 0);
        Due.fine(x, "the first is less like the second than the third", x.weighed(0, 1), 0);
        x = row(1, "mark a weighs 1;mark b weighs 1;", "a b", "a", "b");
        put(x, 0, 1, 2, 0, 2, 1);
        Due.fine(x, "a no less than b", x.weighed(0, 1), 6);
        Due.fine(x, "a as much as b", x.weighed(0, 2), 3);
        x.weigh(0, 9);
        Due.fine(x, "the weights that are do not count", x.weighed(0, 2), 3);
    }

    /** 55, 56: eight TRAITS and twenty threes, none of which says nothing. */
    private static void weighedByAllThereCanBe() {
        LikeRegistry x = Due.with(ALL_TRAITS + "paper p a b c d e f g h;paper q a;paper r b;paper s h;paper t c;");
        int[] threes = new int[60];
        for (int k = 0; k < 60; k += 3) {
            threes[k + 1] = 1;
            threes[k + 2] = 2;
        }
        threes[59] = 3;
        put(x, threes);
        Due.fine(x, "a no less than b", x.weighed(0, 19), 4374);
        // Of a, b, h: a 1: 1; a 2: 4; a 3: 9.
        Due.fine(x, "and no less than h", x.weighed(0, 20), 14 * 243);
        for (int k = 1; k < 19; k++) {
            x.write(0, 3 * k + 2, 2 + k % 3);
        }
        x.write(0, 58, 4);
        x.write(0, 59, 1);
        // a no less than b, c, h, c no less than a: a 1: 1; a 2: 4; a 3: 9.
        Due.fine(x, "and c as much as a", x.weighed(0, 20), 14 * 81);
        Due.refused(x, "not sure", x.sure(0, 0, 20), 6);
        Due.refused(x, "too few numbers for none", x.weighed(0, 21), 1);
    }

    /** 57: n of 0 to 3; the clerk first, then the modern man; one makes a SWAP of two CELLS BESIDE each other, or none. */
    private static void gamesOfTurns() {
        LikeRegistry x = row(5, "mark m weighs 5;", "m@0", "m@3");
        for (int turns = 0; turns < 4; turns++) {
            // Two swaps would bring them beside each other, but the man takes back the first.
            Due.fine(x, turns + " turns", x.game(turns), 0);
        }
        x = row(3, "mark m weighs 5;", "m@0", "m@2");
        Due.fine(x, "none", x.game(0), 0);
        Due.fine(x, "the clerk", x.game(1), 5);
        Due.fine(x, "the man takes one away", x.game(2), 0);
        Due.fine(x, "the clerk again", x.game(3), 5);
        x = row(2, "mark m weighs 5;", "m@0", "m@1");
        for (int turns = 0; turns < 4; turns++) {
            Due.fine(x, "they can't be torn apart", x.game(turns), 5);
        }
        x = row(2, "mark m weighs 5;", "m@0");
        for (int turns = 0; turns < 4; turns++) {
            Due.fine(x, "one alone", x.game(turns), 0);
        }
        x = Due.with("floor 2 by 2;mark m weighs 5;paper p m;paper q m;lies p at 0;lies q at 3;");
        Due.fine(x, "corners", x.game(0), 0);
        Due.fine(x, "the clerk", x.game(1), 5);
        Due.fine(x, "the man", x.game(2), 0);
        Due.fine(x, "the clerk again", x.game(3), 5);
        Due.fine(x, "all lies as it did", x.told(8), 6);
    }

    /** 57, 58: where only the last CELLS of the largest floor are not empty. */
    private static void gamesAtTheLastCells() {
        LikeRegistry x = Due.with("floor 5 by 4;mark m weighs 5;paper p m;paper q m;lies p at 18;lies q at 19;");
        Due.fine(x, "none", x.game(0), 5);
        Due.fine(x, "the clerk", x.game(1), 5);
        Due.fine(x, "the man tears them apart", x.game(2), 0);
        Due.fine(x, "the clerk again", x.game(3), 5);
        Due.fine(x, "they change, which is as good", x.moveOf(1), 1819);
        x = row(3, "mark m weighs 5;mark n weighs 5;", "m@0", "m n@1", "n@2");
        Due.fine(x, "none is the best", x.game(1), 10);
        Due.fine(x, "the man takes that between away", x.game(2), 5);
        Due.fine(x, "as good as none", x.moveOf(2), 1);
        Due.fine(x, "the clerk again", x.game(3), 10);
    }

    /** 58: of all that are as good the first by the lesser CELL, then the greater one; none comes last; 6: none. */
    private static void movesTheFirst() {
        LikeRegistry x = Due.with("floor 3 by 3;mark m weighs 5;paper p m;paper q m;lies p at 4;lies q at 0;");
        // 0 with 1, 0 with 3, 1 with 4, 3 with 4 bring them beside each other.
        Due.fine(x, "the lesser cell, then the greater one", x.moveOf(1), 1);
        x.swap(0, 8);
        // 4 with 5, 4 with 7, 5 with 8, 7 with 8.
        Due.fine(x, "the lesser cell, then the greater one", x.moveOf(1), 405);
        x.swap(4, 5);
        // Now 5 and 8 lie well; whatever keeps them so: 5 with 8 alone.
        Due.fine(x, "a swap that is as good as none", x.moveOf(1), 508);
        x = row(2, "mark m weighs 5;", "m@0", "m@1");
        Due.fine(x, "in three turns", x.moveOf(3), 1);
        Due.fine(x, "in two turns", x.moveOf(2), 1);
        x = row(3, "mark m weighs 5;mark n weighs 5;", "m@0", "m n@1", "n@2");
        Due.refused(x, "every swap is worse", x.moveOf(1), 6);
        x = row(2, "", "@0");
        Due.fine(x, "an empty one, as good", x.moveOf(1), 1);
        x = row(1, "", "@0");
        Due.refused(x, "one cell", x.moveOf(1), 6);
        x = Due.with("floor 5 by 4;paper p;lies p at 19;");
        Due.fine(x, "100 times the lesser and the greater", x.moveOf(1), 1419);
        x = Due.with("floor 1 by 4;paper p;lies p at 3;");
        Due.fine(x, "one below the other", x.moveOf(1), 203);
    }

    /** 59: by ODDS sixteenths: 0, 1, 15, 16; k of 0 to 8; as many, one more, none. */
    private static void smeltOdds() {
        LikeRegistry x = Due.with(ALL_TRAITS + "paper p a b c d e f g h;paper q a;paper r;");
        for (int k = 0; k <= 8; k++) {
            x.rule(6, 0);
            Due.fraction(x, "never", x.smelt(0, k), k == 0 ? 1 : 0, 1);
            x.rule(6, 16);
            Due.fraction(x, "always", x.smelt(0, k), 1, 1);
            Due.fraction(x, "one trait", x.smelt(1, k), k < 2 ? 1 : 0, 1);
            Due.fraction(x, "no trait", x.smelt(2, k), k < 1 ? 1 : 0, 1);
        }
        int[] ways = {256, 255, 247, 219, 163, 93, 37, 9, 1};
        x.rule(6, 8);
        for (int k = 0; k <= 8; k++) {
            Due.is("even odds", x.smelt(0, k), true);
            Due.is("of 256: " + k, x.top() * 256, ways[k] * x.bottom());
        }
        x.rule(6, 1);
        Due.fraction(x, "one sixteenth", x.smelt(1, 1), 1, 16);
        Due.fraction(x, "all by one sixteenth", x.smelt(0, 8), 1, 1L << 32);
        Due.fraction(x, "one at least", x.smelt(0, 1), (1L << 32) - 2562890625L, 1L << 32);
        x.rule(6, 15);
        Due.fraction(x, "fifteen sixteenths", x.smelt(1, 1), 15, 16);
        Due.fraction(x, "all by fifteen sixteenths", x.smelt(0, 8), 2562890625L, 1L << 32);
        Due.fraction(x, "one at least", x.smelt(0, 1), (1L << 32) - 1, 1L << 32);
    }

    /** 65, 63: the largest floor is taken back to as a whole. */
    private static void largestFloorTakenBack() {
        LikeRegistry x = Due.with("floor 5 by 4;mark m weighs 5;paper p m;paper q m;clerk k at 18;lies p at 13;");
        Due.daysStand(x, "file q;ask k p;", 2);
        x.mark();
        Due.fine(x, "registry", Due.registry(x, "floor 1 by 1;"), 0);
        Due.fine(x, "undo", x.undo(), 0);
        Due.fine(x, "above p", x.filedIn(1), 8);
        x.lay(1, 19);
        Due.fine(x, "beside p alone", x.filedIn(0), 14);
        Due.fine(x, "p is found", x.find(0, 1), 0);
        x.swap(19, 14);
        Due.fine(x, "side by side", x.told(9), 5);
        x.take(1);
        Due.fraction(x, "the mean on such a floor", x.mean(0, 3), 5, 1);
    }

    /** 60: what lies in all CELLS (-1: nothing), one by one: how many CELLS; places behind them stay. */
    private static void copies() {
        for (int sort = 0; sort < 4; sort++) {
            LikeRegistry x = Due.with("floor 5 by 4;paper p;paper q;lies q at 0;lies p at 19;");
            x.tray(0, sort, 19);
            Due.refused(x, "one too few", x.copyFloor(0), 3);
            Due.fine(x, "nothing came", x.read(0, 0), 0);
            x.tray(0, sort, 20);
            Due.fine(x, "just enough", x.copyFloor(0), 20);
            x.tray(1, sort, 21);
            x.write(1, 20, 7);
            Due.fine(x, "one more", x.copyFloor(1), 20);
            for (int cell = 0; cell < 20; cell++) {
                Due.fine(x, "cell " + cell, x.read(0, cell), cell == 0 ? 1 : cell == 19 ? 0 : -1);
                Due.fine(x, "cell " + cell, x.read(1, cell), cell == 0 ? 1 : cell == 19 ? 0 : -1);
            }
            Due.fine(x, "behind them", x.read(1, 20), 7);
        }
    }

    /** 24, 25: from now on, in all that is asked. */
    private static void stainsAndWeights() {
        LikeRegistry x = row(3, "mark m weighs 4;mark n weighs 2;clerk k at 1;", "m@0", "m@1", "n@2");
        Due.fine(x, "total", x.told(9), 4);
        Due.fine(x, "stain", x.stain(2, 0, true));
        Due.fine(x, "total", x.told(9), 8);
        Due.fine(x, "who has it", x.trait(0, 1), 7);
        Due.refused(x, "it is so", x.stain(2, 0, true), 7);
        Due.fine(x, "washed", x.stain(1, 0, false));
        Due.refused(x, "it is so", x.stain(1, 0, false), 7);
        Due.fine(x, "total", x.told(9), 0);
        Due.fine(x, "who has it", x.trait(0, 1), 5);
        Due.fine(x, "again", x.stain(1, 0, true));
        for (int weight = 1; weight <= 9; weight++) {
            Due.fine(x, "weigh", x.weigh(0, weight));
            Due.fine(x, "total", x.told(9), 2 * weight);
            Due.fine(x, "likeness", x.likeness(0, 2), weight);
            Due.fine(x, "smell", x.smell(2, 3), weight + 2);
        }
        Due.fine(x, "the other weight stays", x.trait(1, 0), 2);
    }

    /** 28: one PAPER more that lies nowhere; its number. */
    private static void scrawledOnes() {
        LikeRegistry x = new LikeRegistry();
        for (int k = 0; k < 8; k++) {
            Due.fine(x, "scrawl", x.scrawl(0), k);
            Due.fine(x, "how many", x.told(1), k + 1);
            Due.refused(x, "it lies nowhere", x.cellOf(k), 6);
            Due.refused(x, "no traits to have", x.scrawl(1), 1);
        }
        Due.refused(x, "a ninth", x.scrawl(0), 4);
        Due.fine(x, "eight", x.told(1), 8);
        x = Due.with("mark m weighs 3;paper p m;");
        Due.fine(x, "mark", x.mark(), 1);
        Due.fine(x, "scrawl", x.scrawl(1), 1);
        Due.fine(x, "like the first", x.likeness(0, 1), 3);
        Due.fine(x, "file", x.file(1), 0);
        Due.fine(x, "undo", x.undo(), 0);
        Due.refused(x, "it is no more", x.traits(1), 1);
        Due.fine(x, "scrawl", x.scrawl(0), 1);
        Due.refused(x, "the new one lies nowhere", x.cellOf(1), 6);
        Due.fine(x, "and is like none", x.likeness(0, 1), 0);
    }
}
