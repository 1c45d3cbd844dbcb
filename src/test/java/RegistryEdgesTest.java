import java.util.List;

/**
 * Promises 9, 10, 12 and "Terms": the tape, the TOKENS, and each sentence of the REGISTRY that names a boundary, at it
 * and one step to either side of it.
 */
public final class RegistryEdgesTest {
    private static final String RESERVED = "floor by near odds mark weighs paper clerk at lies file take swap sort ask any"
        + " when beside total loop end stop";
    private static final String EIGHT_MARKS = "mark a weighs 1;mark b weighs 2;mark c weighs 3;mark d weighs 4;"
        + "mark e weighs 5;mark f weighs 6;mark g weighs 7;mark h weighs 8;";
    private static final String EIGHT_PAPERS = "paper i;paper j;paper k;paper l;paper m;paper n;paper o;paper p;";
    private static final String FOUR_CLERKS = "clerk q at 0;clerk r at 0;clerk s at 0;clerk t at 0;";

    public static void main(String[] args) {
        tapeOfNineHundred();
        tapeIsReadFromItsBeginning();
        everyByte();
        blanksBetween();
        numbersOfFourDigits();
        wordsOfEightLetters();
        reservedWords();
        floors();
        nearAndOdds();
        weights();
        cellsOfClerksAndPapers();
        ninths();
        takenNames();
        namesNotTold();
        toldAlready();
        traitTwice();
        paperTwiceAndCellTwice();
        leastKindOfOneToken();
        firstAlongTheText();
        endOfTheText();
        whatStandsWhere();
        oldOneStays();
        inPlaceOfThatAhead();
        faultTells();
        Due.end("RegistryEdgesTest");
    }

    /** 9: NONE if there would be more than 900; Terms: a TEXT of at most 900 bytes. */
    private static void tapeOfNineHundred() {
        LikeRegistry x = new LikeRegistry();
        x.told(-1);
        String text = " ".repeat(893) + "near 7;";
        Due.feed(x, text);
        Due.is("more than 900", x.feed(-1, -1, -1, -1, -1), -1);
        Due.is("feed has no status", x.status(), 1);
        Due.fine(x, "a text of 900 bytes", x.registry(900), 0);
        Due.fine(x, "its last bytes", x.told(5), 7);
        Due.is("the tape is empty", x.feed(0, 0, 0, 0, 0), 20);
        for (int k = 2; k <= 44; k++) {
            x.feed(0, 0, 0, 0, 0);
        }
        Due.is("from 880 on", x.feed(0, 0, 0, 0, 0), 900);
        Due.is("from 900 on", x.feed(0, 0, 0, 0, 0), -1);
        LikeRegistry y = new LikeRegistry();
        Due.feed(y, text);
        Due.refused(y, "one byte less", y.registry(899), 9);
        Due.is("fault", y.fault(0), 2);
        Due.is("its place is the text's length", y.fault(1), 899);
    }

    /** 9: bytes come behind those on the tape, the highest of each int first; 10: the first n bytes, empty then. */
    private static void tapeIsReadFromItsBeginning() {
        LikeRegistry x = new LikeRegistry();
        Due.feed(x, "near 1;near 2;near 3");
        Due.feed(x, ";?");
        Due.fine(x, "the first seven", x.registry(7), 0);
        Due.fine(x, "near", x.told(5), 1);
        Due.is("what was behind is gone, too", x.feed(0x6F646473, 0x20313B3F, 0x3F3F3F3F, 0xFFFFFFFF, 0x80808080), 20);
        Due.fine(x, "odds 1;", x.registry(7), 0);
        Due.fine(x, "odds", x.told(6), 1);
        Due.feed(x, "paper p;            ");
        Due.feed(x, "paper q;            ");
        Due.fine(x, "twenty bytes and eight", x.registry(28), 2);
        Due.feed(x, "paper p;            ");
        Due.fine(x, "none of it", x.registry(0), 0);
        Due.refused(x, "the tape is empty by that", x.registry(1), 1);
        textEndsWithinAToken();
    }

    /** 10, 11: the first n bytes: a NUMBER, a WORD, blanks go no farther, whatever is behind them on the tape. */
    private static void textEndsWithinAToken() {
        String[] texts = {"near 7|1;", "near 1234|5;", "near 7|7777;", "paper p|p;", "paper abcdefgh|i;", "near 7 | ;", "near|s"};
        int[] places = {6, 9, 6, 7, 14, 7, 4};
        for (int k = 0; k < texts.length; k++) {
            LikeRegistry x = new LikeRegistry();
            int n = texts[k].indexOf('|');
            Due.feed(x, texts[k].replace("|", ""));
            Due.refused(x, texts[k], x.registry(n), 9);
            Due.is(texts[k] + ": fault", x.fault(0), k == 1 ? 4 : 2);
            Due.is(texts[k] + ": place", x.fault(1), k == 1 ? 5 : places[k]);
        }
        LikeRegistry x = new LikeRegistry();
        Due.feed(x, " ".repeat(894) + "near 7");
        Due.refused(x, "a number up to the last of 900 bytes", x.registry(900), 9);
        Due.is("the text's length", x.fault(1), 900);
        Due.feed(x, " ".repeat(899) + "p");
        Due.refused(x, "a word up to the last of 900 bytes", x.registry(900), 9);
        Due.is("at its first letter", x.fault(1), 899);
        Due.feed(x, "sort;sort;");
        Due.fine(x, "the days, too", x.days(5), 1);
        Due.feed(x, "sort;sort;");
        Due.refused(x, "the days, too", x.days(9), 9);
        Due.is("fault", x.fault(0), 2);
        Due.is("the text's length", x.fault(1), 9);
    }

    /** Terms: blanks (10, 32), small letters, digits, the four signs; FAULT 1: no TOKEN begins so. */
    private static void everyByte() {
        for (int b = 0; b < 256; b++) {
            String sign = "" + (char) b;
            boolean blank = b == 10 || b == 32;
            boolean letter = b >= 97 && b <= 122;
            boolean digit = b >= 48 && b <= 57;
            boolean other = b == ';' || b == '<' || b == '>' || b == '=';
            LikeRegistry x = new LikeRegistry();
            int answer = Due.registry(x, sign);
            Due.is("byte " + b + " alone", answer, blank ? 0 : -1);
            Due.is("byte " + b + " alone: fault", x.fault(0), blank ? 0 : letter || digit || other ? 2 : 1);
            Due.is("byte " + b + " alone: place", x.fault(1), blank ? -1 : 0);
            answer = Due.registry(x, "near" + sign + "7;");
            boolean well = blank || digit;
            Due.is("byte " + b + " within", answer, well ? 0 : -1);
            Due.is("byte " + b + " within: fault", x.fault(0), well ? 0 : letter || other ? 2 : 1);
            Due.is("byte " + b + " within: place", x.fault(1), well ? -1 : letter ? 0 : 4);
            Due.is("byte " + b + " within: near", x.told(5), blank ? 7 : digit ? (b - 48) * 10 + 7 : 3);
        }
    }

    private static void tells(String text, int what, int due) {
        LikeRegistry x = Due.with(text);
        Due.fine(x, "told " + what + " of '" + text + "'", x.told(what), due);
    }

    private static void near(String text, int due) {
        tells(text, 5, due);
    }

    /** Terms: TOKENS as long as they go, between them blanks. */
    private static void blanksBetween() {
        near("near 7;", 7);
        near("near7;", 7);
        near(" \n near \n\n 7 \n ; \n", 7);
        near("\nnear\n7\n;", 7);
        tells("floor 2by 3;", 8, 63);
        Due.registryFault("floor 2 by3x;", 2, 11);
        Due.registryFault("ne ar 7;", 2, 0);
        Due.registryFault("near 1 2;", 2, 7);
        Due.registryFault("floor2by2;near", 2, 14);
    }

    /** Terms: NUMBERS of 1 to 4 digits; FAULT 1: of 5 digits and more, at its first. */
    private static void numbersOfFourDigits() {
        near("near 7;", 7);
        near("near 07;", 7);
        near("near 007;", 7);
        near("near 0007;", 7);
        Due.registryFault("near 00007;", 1, 5);
        Due.registryFault("near 000007;", 1, 5);
        Due.registryFault("near 9999;", 4, 5);
        Due.registryFault("near 10000;", 1, 5);
        Due.registryFault("near 12345678901234567890;", 1, 5);
        Due.registryFault("near \n 12345", 1, 7);
        Due.registryFault("1234", 2, 0);
        Due.registryFault("12345", 1, 0);
        Due.registryFault("mark 1234", 2, 5);
        Due.registryFault("mark 12345", 1, 5);
        Due.registryFault("near 1;12345;", 1, 7);
        Due.registryFault("near 1 12345;", 1, 7);
        Due.registryFault("near 1 1234;", 2, 7);
    }

    /** Terms: a NAME has 1 to 8 letters; FAULT 2: 9 letters and more where a NAME must stand. */
    private static void wordsOfEightLetters() {
        for (String name : List.of("z", "zz", "abcdefg", "abcdefgh", "zzzzzzzz", "floors", "flo", "byby", "ends", "st", "atat")) {
            Due.with("paper " + name + ";lies " + name + " at 5;");
            Due.with("mark " + name + " weighs 9;paper p " + name + ";");
            Due.with("clerk " + name + " at 5;");
        }
        for (String word : List.of("abcdefghi", "abcdefghij", "zzzzzzzzzzzzzzzzzzzzzzzzzzzzzzzzzzz", "floorfloo", "filefilef")) {
            Due.registryFault("paper " + word + ";", 2, 6);
            Due.registryFault("mark " + word + " weighs 1;", 2, 5);
            Due.registryFault("clerk " + word + " at 0;", 2, 6);
            Due.registryFault("paper p " + word + ";", 2, 8);
            Due.registryFault("lies " + word + " at 0;", 2, 5);
            Due.registryFault(word + ";", 2, 0);
        }
        // What begins by a name that is told is another word.
        Due.registryFault("mark abcdefgh weighs 1;paper p abcdefghi;", 2, 31);
        Due.registryFault("paper abcdefgh;lies abcdefghi at 0;", 2, 20);
        Due.registryFault("mark abc weighs 1;paper p ab;", 3, 26);
        Due.registryFault("mark abc weighs 1;paper p abcd;", 3, 26);
        LikeRegistry x = Due.with("mark abcdefgh weighs 1;mark abcdefgi weighs 2;mark abcdefg weighs 3;mark bcdefgh weighs 4;"
            + "paper p abcdefgi bcdefgh;");
        Due.fine(x, "each name is its own", x.traits(0), 10);
    }

    /** Terms: a WORD that is none of floor .. stop; FAULT 2. */
    private static void reservedWords() {
        for (String word : RESERVED.split(" ")) {
            Due.registryFault("mark " + word + " weighs 1;", 2, 5);
            Due.registryFault("paper " + word + ";", 2, 6);
            Due.registryFault("paper p " + word + ";", 2, 8);
            Due.registryFault("clerk " + word + " at 0;", 2, 6);
            Due.registryFault("paper p;lies " + word + " at 0;", 2, 13);
            boolean begins = List.of("floor", "near", "odds", "mark", "paper", "clerk", "lies").contains(word);
            Due.registryFault(word, 2, begins ? word.length() : 0);
            Due.registryFault("near 1;" + word, word.equals("near") ? 5 : 2, begins && !word.equals("near") ? 7 + word.length() : 7);
        }
    }

    /** Terms: WIDE 1 to 5, 3 without; HIGH 1 to 4, 2 without; FAULT 4. */
    private static void floors() {
        for (int wide = 0; wide <= 6; wide++) {
            for (int high = 0; high <= 5; high++) {
                String text = "floor " + wide + " by " + high + ";";
                if (wide == 0 || wide == 6) {
                    Due.registryFault(text, 4, 6);
                } else if (high == 0 || high == 5) {
                    Due.registryFault(text, 4, 11);
                } else {
                    LikeRegistry x = Due.with(text);
                    Due.fine(x, text, x.told(3), wide);
                    Due.fine(x, text, x.told(4), high);
                    Due.fine(x, text, x.told(8), (1 << wide * high) - 1);
                    Due.fine(x, text, x.filedIn(x.scrawl(0)), 0);
                    Due.refused(x, text, x.paperIn(wide * high), 1);
                    Due.refused(x, text, x.paperIn(wide * high - 1), 6);
                }
            }
        }
        Due.registryFault("floor 9999 by 2;", 4, 6);
        Due.registryFault("floor 6 by 5;", 4, 6);
        LikeRegistry x = Due.with("near 1;");
        Due.fine(x, "wide without", x.told(3), 3);
        Due.fine(x, "high without", x.told(4), 2);
    }

    /** Terms: NEAR 1 to 99, 3 without; ODDS 0 to 16, 8 without; FAULT 4. */
    private static void nearAndOdds() {
        for (int v = 0; v <= 101; v++) {
            if (v == 0 || v > 99) {
                Due.registryFault("near " + v + ";", 4, 5);
            } else {
                near("near " + v + ";", v);
            }
            if (v > 16) {
                Due.registryFault("odds " + v + ";", 4, 5);
            } else {
                LikeRegistry x = Due.with("odds " + v + ";");
                Due.fine(x, "odds", x.told(6), v);
                Due.fine(x, "near without", x.told(5), 3);
            }
        }
        tells("near 1;", 6, 8);
    }

    /** Terms: WEIGHT 1 to 9; FAULT 4. */
    private static void weights() {
        for (int v = 0; v <= 11; v++) {
            if (v == 0 || v > 9) {
                Due.registryFault("mark m weighs " + v + ";", 4, 14);
            } else {
                LikeRegistry x = Due.with("mark l weighs 1;mark m weighs " + v + ";");
                Due.fine(x, "weight", x.trait(1, 0), v);
            }
        }
    }

    /** FAULT 4: no such CELL, too, by the FLOOR that is told or by that without. */
    private static void cellsOfClerksAndPapers() {
        for (String floor : List.of("", "floor 1 by 1;", "floor 5 by 4;", "floor 2 by 3;", "floor 1 by 4;", "floor 5 by 1;")) {
            int cells = floor.isEmpty() ? 6 : (floor.charAt(6) - '0') * (floor.charAt(11) - '0');
            String clerk = floor + "clerk k at ";
            String lies = floor + "paper p;lies p at ";
            for (int cell : new int[] {0, cells - 1}) {
                LikeRegistry x = Due.with(clerk + cell + ";");
                Due.fine(x, clerk + cell, x.clerk(0), cell);
                x = Due.with(lies + cell + ";");
                Due.fine(x, lies + cell, x.cellOf(0), cell);
                Due.fine(x, lies + cell, x.paperIn(cell), 0);
            }
            Due.registryFault(clerk + cells + ";", 4, clerk.length());
            Due.registryFault(lies + cells + ";", 4, lies.length());
            Due.registryFault(clerk + "9999;", 4, clerk.length());
            Due.registryFault(lies + "99999;", 1, lies.length());
        }
    }

    /** Terms: at most 8 TRAITS, 8 PAPERS, 4 CLERKS; FAULT 6: a ninth mark, a ninth paper, a fifth clerk, at that WORD. */
    private static void ninths() {
        LikeRegistry x = Due.with(EIGHT_MARKS + EIGHT_PAPERS + FOUR_CLERKS);
        Due.fine(x, "eight marks", x.told(0), 8);
        Due.fine(x, "eight papers", x.told(1), 8);
        Due.fine(x, "four clerks", x.told(2), 4);
        for (String rest : List.of("", " z weighs 1;", " z;", " z at 0;", " a", " ?", " abcdefghi", " by")) {
            Due.registryFault(EIGHT_MARKS + "mark" + rest, 6, EIGHT_MARKS.length());
            Due.registryFault(EIGHT_PAPERS + "\npaper" + rest, 6, EIGHT_PAPERS.length() + 1);
            Due.registryFault(FOUR_CLERKS + "clerk" + rest, 6, FOUR_CLERKS.length());
        }
        Due.with(EIGHT_MARKS.substring(16) + "mark z weighs 1;");
        // Each kind is counted alone.
        Due.with(EIGHT_MARKS + "paper z;clerk y at 0;");
        Due.with(EIGHT_PAPERS + "mark z weighs 1;clerk y at 0;");
        Due.with(FOUR_CLERKS + "mark z weighs 1;paper y;");
    }

    /** Terms: one NAME is of one thing alone; FAULT 3: a new NAME that is taken. */
    private static void takenNames() {
        String[] kinds = {"mark z weighs 1;", "paper z;", "clerk z at 1;"};
        int[] places = {5, 6, 6};
        for (String first : kinds) {
            for (int k = 0; k < 3; k++) {
                Due.registryFault(first + kinds[k], 3, first.length() + places[k]);
                Due.registryFault(first + "near 1;" + kinds[k], 3, first.length() + 7 + places[k]);
                Due.with(first + kinds[k].replace(" z", " y"));
            }
        }
        Due.registryFault("paper p p;", 3, 8);
        Due.registryFault("mark z weighs 1;paper z z;", 3, 22);
        // A name of the registry ahead is free.
        LikeRegistry x = Due.with("paper z;");
        Due.fine(x, "z again, as a clerk", Due.registry(x, "clerk z at 0;"), 0);
        Due.fine(x, "one clerk", x.told(2), 1);
    }

    /** Terms: what a PART names must be told ahead; FAULT 3: a NAME that is no such one told ahead. */
    private static void namesNotTold() {
        String told = "mark m weighs 1;paper p;clerk c at 0;";
        for (String name : List.of("p", "q", "c", "z", "mm")) {
            Due.registryFault(told + "paper q " + name + ";", 3, told.length() + 8);
            Due.registryFault(told + "paper q m " + name + ";", 3, told.length() + 10);
        }
        for (String name : List.of("m", "c", "z", "pp")) {
            Due.registryFault(told + "lies " + name + " at 0;", 3, told.length() + 5);
        }
        Due.registryFault("paper p m;mark m weighs 1;", 3, 8);
        Due.registryFault("lies p at 0;paper p;", 3, 5);
        Due.with(told + "paper q m;lies q at 1;lies p at 0;");
        LikeRegistry x = Due.with(told);
        Due.refused(x, "a mark of the registry ahead", Due.registry(x, "paper q m;"), 9);
        Due.is("fault", x.fault(0), 3);
        Due.refused(x, "a paper of the registry ahead", Due.registry(x, "lies p at 0;"), 9);
        Due.is("fault", x.fault(0), 3);
    }

    /** FAULT 5: floor, near, odds told already, floor behind a clerk, or lies, at that WORD. */
    private static void toldAlready() {
        String other = "mark m weighs 1;paper p m;";
        for (String part : List.of("floor 2 by 2;", "near 3;", "odds 8;")) {
            String word = part.substring(0, part.indexOf(' '));
            Due.registryFault(part + part, 5, part.length());
            Due.registryFault(part + word, 5, part.length());
            Due.registryFault(part + word + " ?", 5, part.length());
            Due.registryFault(part + other + part, 5, (part + other).length());
            Due.with(other + part);
        }
        Due.with("odds 1;near 1;floor 1 by 1;");
        Due.registryFault("clerk k at 0;floor 2 by 2;", 5, 13);
        Due.registryFault("clerk k at 0;floor", 5, 13);
        Due.registryFault(other + "lies p at 0;floor 2 by 2;", 5, other.length() + 12);
        Due.registryFault(other + "lies p at 0;floor", 5, other.length() + 12);
        Due.registryFault("floor 2 by 2;clerk k at 0;floor 2 by 2;", 5, 26);
        Due.with(other + "clerk k at 0;lies p at 0;near 1;odds 1;");
        Due.registryFault("floor 0 by 2;floor 2 by 2;", 4, 6);
    }

    /** FAULT 5: a TRAIT twice behind one paper, at that NAME. */
    private static void traitTwice() {
        String two = "mark m weighs 1;mark n weighs 1;";
        Due.registryFault(two + "paper p m m;", 5, two.length() + 10);
        Due.registryFault(two + "paper p m n m;", 5, two.length() + 12);
        Due.registryFault(two + "paper p n m n", 5, two.length() + 12);
        Due.with(two + "paper p m n;paper q n m;paper r m;");
        String all = EIGHT_MARKS + "paper z a b c d e f g h";
        LikeRegistry x = Due.with(all + ";");
        Due.fine(x, "eight behind one", x.traits(0), 255);
        for (String more : List.of("a", "d", "h")) {
            Due.registryFault(all + " " + more + ";", 5, all.length() + 1);
        }
        Due.registryFault(all + " y;", 3, all.length() + 1);
        Due.registryFault(all, 2, all.length());
    }

    /** FAULT 5: a PAPER that lies already, at that NAME; a CELL in which a PAPER lies, at that NUMBER. */
    private static void paperTwiceAndCellTwice() {
        String two = "paper p;paper q;lies p at 3;";
        Due.registryFault(two + "lies p at 4;", 5, two.length() + 5);
        Due.registryFault(two + "lies p at 3;", 5, two.length() + 5);
        Due.registryFault(two + "lies p", 5, two.length() + 5);
        Due.registryFault(two + "lies q at 3;", 5, two.length() + 10);
        Due.registryFault(two + "lies q at 0003;", 5, two.length() + 10);
        Due.with(two + "lies q at 2;");
        Due.with(two + "lies q at 4;");
        Due.with("clerk k at 3;" + two);
        Due.registryFault(two + "lies q at 6;", 4, two.length() + 10);
        String full = "floor 2 by 1;paper a;paper b;paper c;lies a at 1;lies b at 0;";
        Due.registryFault(full + "lies c at 0;", 5, full.length() + 10);
        Due.registryFault(full + "lies c at 2;", 4, full.length() + 10);
    }

    /** FAULTS: of one TOKEN the least kind. */
    private static void leastKindOfOneToken() {
        // 1 ahead of 4: a number of five digits that can't be. 1 ahead of 2: where none can stand.
        Due.registryFault("near 00100;", 1, 5);
        Due.registryFault("near 1 00001", 1, 7);
        // 2 ahead of 3: a word of nine letters, a word that is no name, where a told one must stand.
        Due.registryFault("paper abcdefgh;paper abcdefghi;", 2, 21);
        Due.registryFault("paper p paper;", 2, 8);
        // 2 ahead of 4: a number where none can stand. 2 ahead of 6: a ninth word that can't stand.
        Due.registryFault("mark 9999", 2, 5);
        Due.registryFault(EIGHT_PAPERS + "near paper", 2, EIGHT_PAPERS.length() + 5);
        Due.registryFault("near 1;odds near", 2, 12);
        // 3 ahead of 5: no such paper, whatever lies.
        Due.registryFault("mark m weighs 1;paper p;lies p at 0;lies m at 0;", 3, 41);
    }

    /** FAULTS: the first along the text. */
    private static void firstAlongTheText() {
        Due.registryFault("near 0;?", 4, 5);
        Due.registryFault("near ?;near 0;", 1, 5);
        Due.registryFault("near 0 near", 4, 5);
        Due.registryFault("paper p q;lies p at 9", 3, 8);
        Due.registryFault("paper p;lies q at 9;", 3, 13);
        Due.registryFault("paper p;lies p at 9;?", 4, 18);
        Due.registryFault("near 1;near 0;", 5, 7);
        Due.registryFault("floor 6 by 0;", 4, 6);
        Due.registryFault("clerk by at 9;", 2, 6);
        Due.registryFault("mark m weighs 0;paper p m m;", 4, 14);
    }

    /** FAULT 2: the end: the text's length. */
    private static void endOfTheText() {
        String all = "floor 2 by 2;near 1;odds 1;mark m weighs 1;paper p m;clerk c at 0;lies p at 0;";
        for (int n = 0; n <= all.length(); n++) {
            String text = all.substring(0, n);
            boolean whole = n == 0 || text.endsWith(";");
            boolean within = n > 0 && n < all.length() && Character.isLetter(all.charAt(n - 1))
                && Character.isLetter(all.charAt(n));
            if (whole) {
                Due.with(text);
            } else if (!within) {
                Due.registryFault(text, 2, n);
                Due.registryFault(text + " \n ", 2, n + 3);
            } else {
                int begin = Math.max(text.lastIndexOf(' '), text.lastIndexOf(';')) + 1;
                Due.registryFault(text, 2, begin);
            }
        }
    }

    /** FAULT 2: it can't stand there. */
    private static void whatStandsWhere() {
        String[] tokens = {"floor", "by", "near", "odds", "mark", "weighs", "paper", "clerk", "at", "lies", "end", "n", "7",
            ";", "<", ">", "="};
        String told = "mark m weighs 1;paper p;";
        String[] parts = {"floor 2 by 2 ;", "near 7 ;", "odds 7 ;", "mark x weighs 7 ;", "paper x m ;", "clerk x at 1 ;",
            "lies p at 1 ;"};
        for (String part : parts) {
            String[] due = part.split(" ");
            String ahead = told;
            for (int k = 0; k < due.length; k++) {
                for (String token : tokens) {
                    if (!mayStand(part, due, k, token)) {
                        Due.registryFault(ahead + token + " ", 2, ahead.length());
                    }
                }
                ahead += due[k] + " ";
            }
            Due.with(ahead);
        }
    }

    private static boolean mayStand(String part, String[] due, int k, String token) {
        if (k == 0) {
            return "floor near odds mark paper clerk lies".contains(token) && token.length() > 3;
        }
        if (Character.isDigit(due[k].charAt(0))) {
            return token.equals("7");
        }
        boolean name = due[k].length() == 1 && Character.isLetter(due[k].charAt(0));
        boolean nameHere = name || part.startsWith("paper x") && k > 1;
        return nameHere && token.equals("n") || token.equals(due[k]) || part.startsWith("paper x") && k == 2 && token.equals(";");
    }

    /** 10, part 5: by 9 the old one stays, and all else, but for the tape and what fault() tells. */
    private static void oldOneStays() {
        List<String> due = Whole.butFault(States.officeWithEmptyTape());
        String[] faulty = {"floor 1 by 1;near 9;odds 9;mark x weighs 1;paper x", "paper z;lies z at 0;?", "near 9",
            "paper a;paper a;", "near 0;", "near 1;near 1;", EIGHT_PAPERS + "paper", FOUR_CLERKS + "clerk",
            EIGHT_MARKS + "paper z a b c d e f g h;lies z at 3;clerk y at 5;mark"};
        for (String text : faulty) {
            LikeRegistry x = States.officeWithEmptyTape();
            Due.refused(x, "registry of '" + text + "'", Due.registry(x, text), 9);
            Rows.same("registry of '" + text + "'", Whole.butFault(x), due);
        }
    }

    /** Terms: a REGISTRY that is taken is there in place of that ahead; there are no DAYS. MARKS, TRAYS stay. */
    private static void inPlaceOfThatAhead() {
        LikeRegistry x = States.office();
        x.registry(0);
        int[] due = {0, 0, 0, 3, 2, 3, 8, 0, 63, 0};
        for (int what = 0; what < 10; what++) {
            Due.fine(x, "told " + what, x.told(what), due[what]);
        }
        Due.refused(x, "no days", x.live(0), 6);
        Due.refused(x, "no days", x.mean(0, 1), 6);
        Due.fine(x, "lived stays", x.lived(0), 220);
        Due.fine(x, "trays stay", x.read(1, 5), 77);
        Due.is("the fraction stays", x.top(), 3);
        Due.is("the fraction stays", x.bottom(), 16);
        Due.fine(x, "scrawl", x.scrawl(0), 0);
        Due.fine(x, "the first one lies nowhere", x.file(0), 0);
        Due.fine(x, "the mark stays", x.undo(), 0);
        Due.fine(x, "the registry of the mark", x.told(1), 2);
        Due.fine(x, "the days of the mark", x.live(77), 300);
    }

    /** 12: of the latest registry() or days() with STATUS 0 or 9; NONE for others, and ahead of any. */
    private static void faultTells() {
        LikeRegistry x = new LikeRegistry();
        int[] others = {-2147483648, -1, 2, 9, 2147483647};
        for (int what : others) {
            Due.is("ahead of any, for others", x.fault(what), -1);
        }
        Due.is("ahead of any", x.fault(0), -1);
        Due.is("ahead of any", x.fault(1), -1);
        x.registry(1);
        Due.is("behind a refused one with 1", x.fault(0), -1);
        x.days(-1);
        Due.is("behind a refused one with 1", x.fault(0), -1);
        Due.refused(x, "a fault", Due.days(x, "?"), 9);
        Due.is("the fault of days", x.fault(0), 1);
        Due.is("its place", x.fault(1), 0);
        for (int what : others) {
            Due.is("with a fault, for others", x.fault(what), -1);
        }
        x.registry(1);
        x.days(301);
        Due.is("stays by 1", x.fault(0), 1);
        Due.is("stays by 1", x.fault(1), 0);
        Due.fine(x, "registry", Due.registry(x, "paper p;"), 1);
        Due.is("without one", x.fault(0), 0);
        Due.is("without one", x.fault(1), -1);
        Due.refused(x, "a fault", Due.registry(x, "paper p;paper"), 9);
        Due.is("the fault of registry", x.fault(0), 2);
        Due.is("its place", x.fault(1), 13);
        Due.fine(x, "mark", x.mark(), 1);
        Due.fine(x, "days", Due.days(x, "any;"), 1);
        Due.is("without one", x.fault(0), 0);
        Due.is("without one", x.fault(1), -1);
        x.undo();
        x.told(-1);
        Due.is("whatever else is asked", x.fault(0), 0);
    }
}
