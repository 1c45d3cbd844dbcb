import java.util.List;

/**
 * Part 4 and promises 11, 61 to 65: each sentence of the DAYS that names a boundary, at it and one step to either side
 * of it.
 */
public final class DaysEdgesTest {
    private static final String RESERVED = "floor by near odds mark weighs paper clerk at lies file take swap sort ask any"
        + " when beside total loop end stop";

    public static void main(String[] args) {
        textOfThreeHundred();
        everyByte();
        numbersAndNames();
        endsWithoutBeginnings();
        textEndsAheadOfAnEnd();
        noSuchNames();
        cellsAndLoops();
        totals();
        thirtySteps();
        threeWithin();
        whatStandsWhere();
        prefixes();
        oldOnesStay();
        inPlaceOfThoseAhead();
        missedFiles();
        missedTakesAndSwaps();
        missedAsks();
        anyByDraws();
        anyWithoutPapers();
        whens();
        loopsAsOften();
        threeHundredSteps();
        stops();
        livedFromNow();
        livedStays();
        means();
        meanChangesNothing();
        marksOfAll();
        marksAtMostThree();
        fractions();
        Due.end("DaysEdgesTest");
    }

    private static LikeRegistry office() {
        return Due.with(States.OFFICE);
    }

    private static void stands(String text, int steps) {
        Due.daysStand(office(), text, steps);
    }

    private static void fault(String text, int fault, int place) {
        Due.daysFault(office(), text, fault, place);
    }

    /** 11, part 4: a TEXT of at most 300 bytes. */
    private static void textOfThreeHundred() {
        stands(" ".repeat(294) + "sort;", 1);
        stands(" ".repeat(295) + "sort;", 1);
        LikeRegistry x = office();
        Due.refused(x, "301 bytes", Due.days(x, " ".repeat(296) + "sort;"), 1);
        Due.is("the tape stays", x.feed(0, 0, 0, 0, 0), 340);
        Due.refused(x, "299 of them", x.days(299), 9);
        x = office();
        Due.feed(x, "sort;sort;sort;sort;".repeat(45));
        Due.refused(x, "all of 900", x.days(900), 1);
        Due.refused(x, "301 of 900", x.days(301), 1);
        Due.fine(x, "150 of 900", x.days(150), 30);
        Due.refused(x, "the tape is empty", x.days(1), 1);
        stands("", 0);
        stands(" ", 0);
        stands("\n", 0);
    }

    /** FAULTS 1, 2 as above: every byte where a STEP may stand, and within one. */
    private static void everyByte() {
        for (int b = 0; b < 256; b++) {
            boolean blank = b == 10 || b == 32;
            boolean letter = b >= 97 && b <= 122;
            boolean digit = b >= 48 && b <= 57;
            boolean other = b == ';' || b == '<' || b == '>' || b == '=';
            int kind = letter || digit || other ? 2 : 1;
            LikeRegistry x = office();
            Due.is("byte " + b, Due.days(x, "sort;" + (char) b), blank ? 1 : -1);
            Due.is("byte " + b + ": fault", x.fault(0), blank ? 0 : kind);
            Due.is("byte " + b + ": place", x.fault(1), blank ? -1 : 5);
            boolean well = b == '<' || b == '>' || b == '=';
            Due.is("byte " + b + " compares", Due.days(x, "when total" + (char) b + "5;end;"), well ? 1 : -1);
            Due.is("byte " + b + " compares: fault", x.fault(0), well ? 0 : kind == 1 && blank ? 2 : kind);
            int place = letter ? 5 : blank ? 11 : 10;
            Due.is("byte " + b + " compares: place", x.fault(1), well ? -1 : place);
        }
    }

    /** As above: NUMBERS of 1 to 4 digits, NAMES of 1 to 8 letters, none of floor .. stop. */
    private static void numbersAndNames() {
        stands("loop 0001;end;", 1);
        fault("loop 00001;end;", 1, 5);
        stands("swap 0005 0000;", 1);
        fault("swap 00005 0;", 1, 5);
        fault("swap 5 00000;", 1, 7);
        for (String word : RESERVED.split(" ")) {
            fault("file " + word + ";", 2, 5);
            fault("take " + word + ";", 2, 5);
            fault("ask " + word + " a;", 2, 4);
            fault("ask k " + word + ";", 2, 6);
            fault("when lies " + word + ";end;", 2, 10);
            fault("when beside " + word + " a;end;", 2, 12);
            fault("when beside a " + word + ";end;", 2, 14);
            boolean test = List.of("lies", "beside", "total").contains(word);
            fault("when " + word + "?", test ? 1 : 2, test ? 5 + word.length() : 5);
            boolean step = List.of("file", "take", "swap", "sort", "ask", "any", "when", "loop", "stop").contains(word);
            fault(word + "?", step ? 1 : 2, step ? word.length() : 0);
        }
        LikeRegistry x = Due.with("paper abcdefgh;paper abcdefg;clerk bcdefghi at 0;");
        Due.daysStand(x, "file abcdefgh;take abcdefg;ask bcdefghi abcdefgh;", 3);
        Due.daysFault(x, "file abcdefghi;", 2, 5);
        Due.daysFault(x, "ask bcdefghij abcdefgh;", 2, 4);
        Due.daysFault(x, "file abcdef;", 3, 5);
        Due.daysFault(x, "sortsort;", 2, 0);
        Due.daysFault(x, "sortsorts;", 2, 0);
    }

    /** FAULT 2: an end without a beginning. */
    private static void endsWithoutBeginnings() {
        fault("end;", 2, 0);
        fault("end", 2, 0);
        fault("sort;end;", 2, 5);
        stands("loop 1;end;", 1);
        fault("loop 1;end;end;", 2, 11);
        stands("when lies a;end;", 1);
        fault("when lies a;end;end;", 2, 16);
        stands("loop 1;loop 1;end;end;", 2);
        fault("loop 1;loop 1;end;end;end;", 2, 22);
        stands("loop 1;end;loop 1;end;", 2);
        fault("sort;".repeat(30) + "end;", 2, 150);
    }

    /** FAULT 2: the text's end ahead of an end; the end: the text's length. */
    private static void textEndsAheadOfAnEnd() {
        fault("loop 1;", 2, 7);
        fault("loop 1;  \n", 2, 10);
        fault("loop 1;sort;", 2, 12);
        fault("loop 1;end", 2, 10);
        fault("loop 1;end ", 2, 11);
        fault("loop 1;loop 2;end;", 2, 18);
        fault("when lies a;", 2, 12);
        fault("loop 1;when total=0;loop 2;end;end;", 2, 35);
        stands("loop 1;when total=0;loop 2;end;end;end;", 3);
        fault("loop 1;end?", 1, 10);
        fault("loop 1;end sort;", 2, 11);
    }

    /** FAULT 3: a NAME that is no such one (a CLERK, then a PAPER behind ask; else PAPERS). */
    private static void noSuchNames() {
        for (String name : List.of("r", "k", "z", "aa")) {
            fault("file " + name + ";", 3, 5);
            fault("take " + name + ";", 3, 5);
            fault("when lies " + name + ";end;", 3, 10);
            fault("when beside " + name + " a;end;", 3, 12);
            fault("when beside a " + name + ";end;", 3, 14);
            fault("ask l " + name + ";", 3, 6);
        }
        for (String name : List.of("r", "a", "z", "kk")) {
            fault("ask " + name + " a;", 3, 4);
            fault("ask " + name + " z;", 3, 4);
        }
        stands("file e;take e;when lies e;end;when beside e e;end;ask l e;", 5);
        LikeRegistry x = office();
        x.scrawl(1);
        Due.daysFault(x, "file f;", 3, 5);
        Due.daysStand(x, "file e;", 1);
        Due.registry(x, "paper z;");
        Due.daysFault(x, "file a;", 3, 5);
        Due.daysStand(x, "file z;", 1);
    }

    /** FAULT 4: a NUMBER that can't be: no such CELL, loop 1 to 99. */
    private static void cellsAndLoops() {
        stands("swap 0 5;", 1);
        stands("swap 5 0;", 1);
        stands("swap 3 3;", 1);
        fault("swap 6 0;", 4, 5);
        fault("swap 0 6;", 4, 7);
        fault("swap 6 6;", 4, 5);
        fault("swap 9999 0;", 4, 5);
        for (String floor : List.of("floor 1 by 1;", "floor 5 by 4;", "floor 4 by 3;")) {
            LikeRegistry x = Due.with(floor);
            int cells = x.told(3) * x.told(4);
            Due.daysStand(x, "swap " + (cells - 1) + " " + (cells - 1) + ";", 1);
            Due.daysFault(x, "swap 0 " + cells + ";", 4, 7);
            Due.daysFault(x, "swap " + cells + " 0;", 4, 5);
        }
        fault("loop 0;end;", 4, 5);
        stands("loop 1;end;", 1);
        stands("loop 99;end;", 1);
        fault("loop 100;end;", 4, 5);
        fault("loop 9999;", 4, 5);
        fault("loop 0 end;", 4, 5);
    }

    /** FAULT 4: total: 0 to 9,999. */
    private static void totals() {
        for (String compares : List.of("<", ">", "=")) {
            stands("when total" + compares + "0;end;", 1);
            stands("when total " + compares + " 9999;end;", 1);
            fault("when total" + compares + "10000;end;", 1, 11);
            fault("when total" + compares + ";end;", 2, 11);
            fault("when total" + compares + compares + "5;end;", 2, 11);
        }
        fault("when total;5;end;", 2, 10);
        fault("when total 5;end;", 2, 11);
    }

    /** FAULT 6: a 31st STEP, at its WORD; end is none. */
    private static void thirtySteps() {
        stands("sort;".repeat(29), 29);
        stands("sort;".repeat(30), 30);
        for (String word : "file take swap sort ask any when loop stop".split(" ")) {
            fault("sort;".repeat(30) + word, 6, 150);
            fault("sort;".repeat(30) + " \n" + word + " ?", 6, 152);
            fault("sort;".repeat(29) + word + "?", 1, 145 + word.length());
        }
        fault("sort;".repeat(30) + "lies", 2, 150);
        fault("sort;".repeat(30) + "a", 2, 150);
        fault("sort;".repeat(30) + "7", 2, 150);
        fault("sort;".repeat(30) + "?", 1, 150);
        stands("loop 1;" + "any;".repeat(29) + "end;", 30);
        fault("loop 1;" + "any;".repeat(29) + "any;end;", 6, 123);
        stands("loop 1;end;".repeat(27), 27);
        stands("any;".repeat(27) + "loop 1;loop 1;loop 1;end;end;end;", 30);
        fault("any;".repeat(27) + "loop 1;loop 1;loop 1;end;end;end;any;", 6, 141);
        lives(office(), "take b;".repeat(29) + "take a;", 0, 30, 29, 0, 1, 0, 0);
        lives(office(), "loop 2;" + "take b;".repeat(28) + "take a;end;", 0, 59, 57, 0, 1, 0, 0);
    }

    /** FAULT 7: a when, loop within three others, at its WORD; 6 ahead of 7. */
    private static void threeWithin() {
        String[] opens = {"loop 2;", "when lies a;", "when total<5;", "when beside a b;"};
        for (String first : opens) {
            for (String third : opens) {
                String three = first + "loop 1;" + third;
                stands(three + "sort;end;end;end;", 4);
                for (String fourth : opens) {
                    fault(three + fourth + "end;end;end;end;", 7, three.length());
                    fault(three + "sort;" + fourth.substring(0, 4), 7, three.length() + 5);
                    stands(three + "end;" + fourth + "end;end;end;", 4);
                    stands(three + "end;end;end;" + fourth + "end;", 4);
                    fault(three + "end;" + fourth + fourth, 7, (three + "end;" + fourth).length());
                }
            }
        }
        fault("loop 1;loop 1;loop 1;" + "any;".repeat(27) + "loop", 6, 129);
        fault("loop 1;loop 1;loop 1;" + "any;".repeat(26) + "loop", 7, 125);
        fault("loop 1;loop 1;loop 1;" + "any;".repeat(26) + "when", 7, 125);
        fault("loop 1;loop 1;loop 1;loop 0;", 7, 21);
        fault("loop 1;loop 1;loop 0;loop 1;", 4, 19);
    }

    /** FAULT 2: it can't stand there. */
    private static void whatStandsWhere() {
        String[] tokens = {"floor", "by", "paper", "lies", "file", "take", "swap", "sort", "ask", "any", "when", "beside",
            "total", "loop", "end", "stop", "a", "k", "5", ";", "<", ">", "="};
        String steps = "file take swap sort ask any when loop stop";
        String[] forms = {"file a ;", "take a ;", "swap 5 4 ;", "sort ;", "ask k a ;", "any ;", "when lies a ;",
            "when beside a a ;", "when total < 5 ;", "loop 5 ;", "stop ;"};
        for (String form : forms) {
            String ahead = "";
            String[] due = form.split(" ");
            for (int k = 0; k < due.length; k++) {
                for (String token : tokens) {
                    boolean may = token.equals(due[k]) || due[k].matches("\\d") && token.equals("5")
                        || k == 0 && steps.contains(token) && token.length() > 2
                        || due[k].matches("a|k") && token.matches("a|k") || due[k].equals("<") && token.matches("[<>=]")
                        || k == 1 && due[0].equals("when") && token.matches("lies|beside|total");
                    if (!may) {
                        fault(ahead + token + " ", 2, ahead.length());
                    }
                }
                ahead += due[k] + " ";
            }
        }
    }

    /** FAULT 2 at the text's length, wherever it ends but behind a whole STEP. */
    private static void prefixes() {
        String all = "file a;take a;swap 0 1;sort;ask k a;any;stop;when lies a;end;when beside a a;end;when total=5;end;loop 5;end;";
        for (int n = 1; n < all.length(); n++) {
            String text = all.substring(0, n);
            boolean cut = Character.isLetter(all.charAt(n - 1)) && Character.isLetter(all.charAt(n));
            boolean open = text.lastIndexOf("end;") < Math.max(text.lastIndexOf("when"), text.lastIndexOf("loop"));
            if (cut) {
                fault(text, 2, Math.max(text.lastIndexOf(' '), text.lastIndexOf(';')) + 1);
            } else if (text.endsWith(";") && !open) {
                Due.is("days of '" + text + "'", Due.days(office(), text) > 0, true);
            } else {
                fault(text, 2, n);
            }
        }
    }

    /** 11, part 5: by 9 the old ones stay, and all else, but for the tape and what fault() tells. */
    private static void oldOnesStay() {
        List<String> due = Whole.butFault(States.officeWithEmptyTape());
        String[] faulty = {"take a;take c;?", "take a;take c;take e;loop 1;", "end;", "take z;", "swap 9 9;", "loop 100;",
            "take a;".repeat(30) + "take", "loop 1;loop 1;loop 1;loop"};
        for (String text : faulty) {
            LikeRegistry x = States.officeWithEmptyTape();
            Due.refused(x, "days of '" + text + "'", Due.days(x, text), 9);
            Rows.same("days of '" + text + "'", Whole.butFault(x), due);
        }
    }

    /** 11: likewise the DAYS: those that are taken are there in place of those ahead; all else stays. */
    private static void inPlaceOfThoseAhead() {
        LikeRegistry x = office();
        Due.daysStand(x, "take a;take c;", 2);
        Due.daysStand(x, "take e;", 1);
        Due.fine(x, "all still lie", x.told(7), 21);
        Due.fine(x, "live", x.live(0), 1);
        Due.fine(x, "e was taken, a and c were not", x.told(7), 5);
        Due.daysStand(x, "loop 2;sort;end;", 2);
        Due.daysStand(x, "sort;", 1);
        Due.fine(x, "no loop any more", x.live(0), 1);
        Due.daysStand(x, "", 0);
        Due.fine(x, "no steps any more", x.live(0), 0);
        Due.fine(x, "none was missed", x.lived(0), 0);
        Due.fraction(x, "no steps any more", x.mean(0, 1), 0, 1);
    }

    private static void lives(LikeRegistry x, String days, int seed, int... due) {
        Due.is("days '" + days + "'", Due.days(x, days) >= 0, true);
        Due.fine(x, "live '" + days + "'", x.live(seed), due[0]);
        for (int what = 0; what < 5; what++) {
            Due.fine(x, "lived " + what + " of '" + days + "'", x.lived(what), due[what + 1]);
        }
    }

    /** MISSED: a file of what lies, or without an empty CELL (by any, too). */
    private static void missedFiles() {
        LikeRegistry x = office();
        lives(x, "file b;", 0, 1, 0, 1, 0, 0, 0);
        lives(x, "file b;", 0, 1, 1, 0, 0, 0, 0);
        x = Due.with("floor 3 by 1;paper a;paper b;paper c;paper d;lies a at 1;");
        lives(x, "file b;file c;", 0, 2, 0, 2, 0, 0, 0);
        Due.fine(x, "no cell is empty", x.told(8), 0);
        lives(x, "file d;", 0, 1, 1, 0, 0, 0, 0);
        lives(x, "file a;", 0, 1, 1, 0, 0, 0, 0);
        // Any by seed 0 draws 1421: of four papers b, then 7223: d, then 1863: d.
        lives(x, "any;any;any;", 0, 3, 0, 1, 2, 0, 0);
        x = Due.with("floor 1 by 1;paper a;paper b;lies a at 0;");
        lives(x, "any;any;any;", 0, 3, 3, 0, 0, 0, 0);
        Due.fine(x, "b is drawn, and finds no cell", x.paperIn(0), 0);
        lives(x, "take a;any;any;", 0, 3, 0, 1, 2, 0, 0);
    }

    /** MISSED: a take of what does not lie, a swap of a CELL with itself, of two empty ones. */
    private static void missedTakesAndSwaps() {
        LikeRegistry x = office();
        lives(x, "take a;", 0, 1, 0, 0, 1, 0, 0);
        lives(x, "take a;", 0, 1, 1, 0, 0, 0, 0);
        lives(x, "take b;", 0, 1, 1, 0, 0, 0, 0);
        x = office();
        lives(x, "swap 0 0;", 0, 1, 1, 0, 0, 0, 0);
        lives(x, "swap 1 1;", 0, 1, 1, 0, 0, 0, 0);
        lives(x, "swap 1 3;", 0, 1, 1, 0, 0, 0, 0);
        Due.fine(x, "all lie as they did", x.told(8), 42);
        lives(x, "swap 0 1;", 0, 1, 0, 0, 0, 0, 0);
        Due.fine(x, "either may be empty", x.cellOf(0), 1);
        lives(x, "swap 0 1;", 0, 1, 0, 0, 0, 0, 0);
        Due.fine(x, "either may be empty", x.cellOf(0), 0);
        lives(x, "swap 2 4;", 0, 1, 0, 0, 0, 0, 0);
        Due.fine(x, "none may be", x.paperIn(4), 4);
        lives(x, "sort;", 0, 1, 0, 0, 0, 0, 0);
        lives(x, "sort;", 0, 1, 0, 0, 0, 0, 0);
    }

    /** MISSED: an ask by which nothing is FOUND; ask: by all TRAITS of that PAPER, as they are then. */
    private static void missedAsks() {
        LikeRegistry x = office();
        lives(x, "ask k a;", 0, 1, 0, 0, 0, 1, 0);
        lives(x, "ask k d;", 0, 1, 1, 0, 0, 0, 0);
        // By b's only trait, though b lies nowhere: l goes to e.
        lives(x, "ask l b;", 0, 1, 0, 0, 0, 1, 0);
        Due.fine(x, "he is there", x.clerk(1), 2);
        x = office();
        Due.daysStand(x, "ask l d;", 1);
        Due.fine(x, "live", x.live(0), 1);
        Due.fine(x, "missed", x.lived(0), 1);
        Due.fine(x, "he stays", x.clerk(1), 5);
        x.stain(3, 1, true);
        Due.fine(x, "live", x.live(0), 1);
        Due.fine(x, "found", x.lived(3), 1);
        Due.fine(x, "by s he goes to c", x.clerk(1), 4);
        x.take(2);
        Due.fine(x, "live", x.live(0), 1);
        Due.fine(x, "missed: nothing lies there or beside it but a, e elsewhere", x.lived(0), 1);
    }

    /** Draws: s becomes what is left of s times 3,163 and 11,369 by 65,536; the draw is s by 8, rounded down, by n. */
    private static void anyByDraws() {
        // Seed 0: s is 11369, 57788, 14909; by 8 they are 1421, 7223, 1863.
        int[] eighths = {1421, 7223, 1863};
        String papers = "";
        for (int many = 1; many <= 8; many++) {
            papers += "paper " + "abcdefgh".charAt(many - 1) + ";";
            int lying = 0;
            for (int k = 0; k < 3; k++) {
                lying ^= 1 << eighths[k] % many;
                LikeRegistry x = Due.with("floor 5 by 4;" + papers);
                Due.daysStand(x, "any;".repeat(k + 1), k + 1);
                Due.fine(x, "live", x.live(0), k + 1);
                Due.fine(x, (k + 1) + " draws by " + many, x.told(7), lying);
            }
        }
        // Seed 9999: s is 49854, by 8 it is 6231; seed 1: 14532, 1816; seed 7: 33510, 4188.
        int[] seeds = {9999, 1, 7};
        int[] first = {6231, 1816, 4188};
        for (int k = 0; k < 3; k++) {
            LikeRegistry x = Due.with("floor 5 by 4;" + papers);
            Due.daysStand(x, "any;", 1);
            Due.fine(x, "live", x.live(seeds[k]), 1);
            Due.fine(x, "seed " + seeds[k], x.told(7), 1 << first[k] % 8);
        }
    }

    /** MISSED: any without PAPERS (no draw). */
    private static void anyWithoutPapers() {
        LikeRegistry x = new LikeRegistry();
        lives(x, "any;", 0, 1, 1, 0, 0, 0, 0);
        lives(x, "loop 99;any;any;end;", 9999, 199, 198, 0, 0, 0, 0);
        x.scrawl(0);
        lives(x, "any;", 0, 1, 0, 1, 0, 0, 0);
        lives(x, "any;", 0, 1, 0, 0, 1, 0, 0);
    }

    /** TEST: lies NAME, beside NAME NAME, total COMPARES NUMBER. */
    private static void whens() {
        LikeRegistry x = office();
        lives(x, "when lies a;sort;end;when lies b;sort;end;", 0, 3, 0, 0, 0, 0, 0);
        x = Due.with("floor 3 by 2;mark m weighs 5;paper a m;paper b m;paper c m;lies a at 2;lies b at 3;lies c at 1;");
        // 2 and 3 are one behind the other, but not beside each other.
        lives(x, "when beside a b;stop;end;when beside a c;loop 1;end;end;when beside c a;loop 1;end;end;when beside a a;stop;end;",
            0, 6, 0, 0, 0, 0, 0);
        lives(x, "take b;when beside c b;stop;end;when beside b c;stop;end;", 0, 3, 0, 0, 1, 0, 0);
        // a 1, c 2: total 5.
        lives(x, "when total<5;stop;end;when total>5;stop;end;when total=5;sort;end;", 0, 4, 0, 0, 0, 0, 0);
        lives(x, "when total<6;sort;end;when total>4;sort;end;when total=4;stop;end;when total=6;stop;end;", 0, 6, 0, 0,
            0, 0, 0);
        lives(x, "when total<9999;sort;end;when total>9999;stop;end;when total=9999;stop;end;", 0, 4, 0, 0, 0, 0, 0);
        x = new LikeRegistry();
        lives(x, "when total<0;stop;end;when total>0;stop;end;when total=0;sort;end;", 0, 4, 0, 0, 0, 0, 0);
    }

    /** loop n (1 to 99): as often; when, loop count as one each time they are come to from ahead; end does not. */
    private static void loopsAsOften() {
        LikeRegistry x = office();
        lives(x, "loop 1;take b;end;", 0, 2, 1, 0, 0, 0, 0);
        lives(x, "loop 2;take b;end;", 0, 3, 2, 0, 0, 0, 0);
        lives(x, "loop 98;take b;end;", 0, 99, 98, 0, 0, 0, 0);
        lives(x, "loop 99;take b;end;", 0, 100, 99, 0, 0, 0, 0);
        lives(x, "loop 99;end;", 0, 1, 0, 0, 0, 0, 0);
        lives(x, "loop 3;loop 2;take b;end;end;", 0, 10, 6, 0, 0, 0, 0);
        lives(x, "loop 2;loop 2;loop 2;take b;end;end;end;take d;", 0, 16, 9, 0, 0, 0, 0);
        lives(x, "loop 3;when lies b;take b;end;end;", 0, 4, 0, 0, 0, 0, 0);
        lives(x, "loop 3;when lies a;take b;end;end;", 0, 7, 3, 0, 0, 0, 0);
        lives(x, "loop 3;when lies a;take a;end;end;", 0, 5, 0, 0, 1, 0, 0);
    }

    /** At most 300 STEPS; lived 4: 1 if a STEP was left to be done (by the 300 alone). */
    private static void threeHundredSteps() {
        String[] rest = {"", "take b;", "take b;take b;"};
        for (int more = 0; more < 3; more++) {
            // 1 and 99 times 3 are 298.
            lives(office(), "loop 99;take b;take b;take b;end;" + rest[more], 0, 298 + more, 297 + more, 0, 0, 0, 0);
        }
        String end = "loop 99;take b;take b;take b;end;take b;";
        lives(office(), end + "take b;take b;", 0, 300, 299, 0, 0, 0, 1);
        lives(office(), end + "take b;stop;", 0, 300, 299, 0, 0, 0, 1);
        lives(office(), end + "take b;when lies b;end;", 0, 300, 299, 0, 0, 0, 1);
        lives(office(), end + "take b;loop 1;end;", 0, 300, 299, 0, 0, 0, 1);
        lives(office(), end + "when lies b;take b;end;", 0, 300, 298, 0, 0, 0, 0);
        lives(office(), end + "when lies a;take b;end;", 0, 300, 298, 0, 0, 0, 1);
        lives(office(), end + "when lies a;end;", 0, 300, 298, 0, 0, 0, 0);
        lives(office(), end + "loop 99;end;", 0, 300, 298, 0, 0, 0, 0);
        lives(office(), end + "loop 1;take b;end;", 0, 300, 298, 0, 0, 0, 1);
        // The 300th within a loop: the last time, or one time ahead of it.
        lives(office(), "take b;loop 2;loop 99;take b;end;take b;end;loop 97;take b;end;", 0, 300, 298 - 2, 0, 0, 0, 1);
        lives(office(), "loop 3;loop 99;take b;end;end;", 0, 300, 296, 0, 0, 0, 1);
        lives(office(), "loop 3;loop 98;take b;end;end;loop 1;end;", 0, 299, 294, 0, 0, 0, 0);
        lives(office(), "loop 3;loop 98;take b;end;end;take b;take b;", 0, 300, 296, 0, 0, 0, 0);
        lives(office(), "loop 3;loop 98;take b;end;end;loop 1;take b;end;", 0, 300, 295, 0, 0, 0, 0);
        lives(office(), "loop 3;loop 98;take b;end;end;loop 2;take b;end;", 0, 300, 295, 0, 0, 0, 1);
        lives(office(), "loop 99;loop 99;end;end;loop 99;loop 99;end;end;loop 99;loop 1;end;end;", 0, 300, 0, 0, 0, 0, 0);
        lives(office(), "loop 99;loop 99;end;end;loop 99;loop 99;end;end;loop 99;loop 1;end;end;sort;", 0, 300, 0, 0, 0, 0,
            1);
    }

    /** lived 4: not by stop; what is behind it is not come to. */
    private static void stops() {
        lives(office(), "stop;", 0, 1, 0, 0, 0, 0, 0);
        lives(office(), "stop;take a;", 0, 1, 0, 0, 0, 0, 0);
        lives(office(), "take a;stop;take c;", 0, 2, 0, 0, 1, 0, 0);
        lives(office(), "loop 9;loop 9;when lies a;take a;stop;take c;end;end;end;take e;", 0, 5, 0, 0, 1, 0, 0);
        lives(office(), "loop 9;when lies b;stop;end;end;take e;", 0, 11, 0, 0, 1, 0, 0);
        lives(office(), "loop 99;take b;take b;take b;end;take b;stop;take b;", 0, 300, 298, 0, 0, 0, 0);
        lives(office(), "loop 99;take b;take b;take b;end;stop;take b;", 0, 299, 297, 0, 0, 0, 0);
    }

    /** 61: LIVED from how all is now: what it comes to stays. */
    private static void livedFromNow() {
        LikeRegistry x = office();
        Due.daysStand(x, "take a;file b;ask l c;", 3);
        Due.fine(x, "first", x.live(0), 3);
        Due.fine(x, "taken", x.lived(2), 1);
        Due.fine(x, "who lies", x.told(7), 22);
        Due.fine(x, "where l is", x.clerk(1), 4);
        Due.fine(x, "second", x.live(0), 3);
        Due.fine(x, "nothing to take, b lies", x.lived(0), 2);
        Due.fine(x, "found again", x.lived(3), 1);
        x.lay(0, 5);
        Due.fine(x, "third", x.live(0), 3);
        Due.fine(x, "taken again", x.lived(2), 1);
    }

    /** 62: of live() latest with STATUS 0, whatever came behind it. */
    private static void livedStays() {
        LikeRegistry x = office();
        Due.refused(x, "no live yet", x.lived(0), 6);
        Due.refused(x, "no days", x.live(0), 6);
        Due.refused(x, "no live with status 0 yet", x.lived(0), 6);
        Due.daysStand(x, "take a;take a;", 2);
        Due.refused(x, "seed", x.live(10000), 1);
        Due.refused(x, "no live with status 0 yet", x.lived(4), 6);
        Due.fraction(x, "a mean is no live", x.mean(0, 1), 0, 1);
        Due.refused(x, "no live with status 0 yet", x.lived(2), 6);
        x.mark();
        Due.fine(x, "live", x.live(0), 2);
        int[] due = {1, 0, 1, 0, 0};
        for (int time = 0; time < 7; time++) {
            for (int what = 0; what < 5; what++) {
                Due.fine(x, "lived " + what + " at " + time, x.lived(what), due[what]);
            }
            switch (time) {
                case 0: Due.refused(x, "seed", x.live(-1), 1); break;
                case 1: Due.fine(x, "undo", x.undo(), 0); break;
                case 2: Due.fraction(x, "mean", x.mean(5, 5), 0, 1); break;
                case 3: Due.daysStand(x, "any;any;any;file a;", 4); break;
                case 4: Due.fine(x, "registry", Due.registry(x, ""), 0); break;
                default: Due.refused(x, "no days", x.live(0), 6); break;
            }
        }
    }

    /** 63: the mean of TOTAL behind the DAYS, by so many seeds from one on, each from how all is now. */
    private static void means() {
        String days = "any;any;any;any;when total>5;any;end;ask k a;";
        for (int many : new int[] {1, 2, 3, 19, 20}) {
            int from = 10000 - many;
            long sum = 0;
            for (int seed = from; seed <= 9999; seed++) {
                LikeRegistry y = office();
                Due.days(y, days);
                Due.is("live", y.live(seed) > 4, true);
                sum += y.told(9);
            }
            LikeRegistry x = office();
            Due.days(x, days);
            Due.fine(x, "mean", x.mean(from, many));
            Due.is("by its parts", x.top() * many, sum * x.bottom());
            for (int k = 2; k <= 20; k++) {
                Due.is("without a common divisor", x.top() % k == 0 && x.bottom() % k == 0, false);
            }
        }
        LikeRegistry x = Due.with("floor 2 by 1;mark m weighs 9;paper a m;paper b m;lies a at 0;");
        // Seed 0 draws 1421, b of two, seed 1 draws 1816: a.
        Due.daysStand(x, "any;", 1);
        Due.fraction(x, "b is filed", x.mean(0, 1), 9, 1);
        Due.fraction(x, "a is taken", x.mean(1, 1), 0, 1);
        Due.fraction(x, "the mean", x.mean(0, 2), 9, 2);
        Due.fine(x, "b lies nowhere", x.told(7), 1);
    }

    /** 63: all stays as it is. */
    private static void meanChangesNothing() {
        LikeRegistry x = States.office();
        LikeRegistry y = States.office();
        Due.fine(x, "mean", x.mean(77, 20));
        x.smelt(0, 1);
        y.smelt(0, 1);
        Rows.same("mean", Whole.of(x), Whole.of(y));
    }

    private interface Change {
        boolean of(LikeRegistry x);
    }

    /** 64, 65: the REGISTRY with all that became of it, the DAYS: all is taken back to the latest MARK. */
    private static void marksOfAll() {
        Change[] changes = {x -> x.file(1) == 1, x -> x.lay(1, 5), x -> x.take(0) == 0, x -> x.swap(0, 1) == 5,
            x -> x.sort() == 2, x -> x.stain(0, 0, false), x -> x.stain(3, 2, true), x -> x.weigh(1, 9), x -> x.walk(1, 0),
            x -> x.ask(1, 4) == 4, x -> x.scrawl(7) == 5, x -> x.rule(5, 99), x -> x.rule(6, 0), x -> x.days(0) == 0,
            x -> Due.days(x, "take e;") == 1, x -> x.registry(0) == 0,
            x -> Due.registry(x, States.MOST) == 8 && Due.days(x, "any;sort;any;") == 3, x -> x.best() == 0,
            x -> x.told(9) == 0};
        List<String> due = Whole.butFault(States.officeWithEmptyTape());
        for (int k = 0; k < changes.length; k++) {
            LikeRegistry x = States.officeWithEmptyTape();
            Due.fine(x, "mark", x.mark(), 2);
            Due.is("change " + k, changes[k].of(x), true);
            Due.fine(x, "undo", x.undo(), 1);
            Rows.same("change " + k + " and undo", Whole.butFault(x), due);
        }
        LikeRegistry x = office();
        Due.daysStand(x, "take a;take c;", 2);
        x.mark();
        Due.fine(x, "live", x.live(0), 2);
        Due.fine(x, "undo", x.undo(), 0);
        Due.fine(x, "a and c lie", x.told(7), 21);
        Due.fine(x, "in its cell", x.cellOf(2), 4);
        Due.fine(x, "the days are there", x.live(0), 2);
        Due.fine(x, "taken again", x.lived(2), 2);
    }

    /** 64, 65: at most 3; the latest is taken back to, and gone then. */
    private static void marksAtMostThree() {
        LikeRegistry x = office();
        for (int k = 1; k <= 3; k++) {
            x.weigh(0, k);
            Due.fine(x, "mark", x.mark(), k);
        }
        x.weigh(0, 9);
        Due.refused(x, "a fourth", x.mark(), 4);
        Due.fine(x, "nothing was taken back", x.trait(0, 0), 9);
        for (int k = 3; k >= 1; k--) {
            Due.fine(x, "undo", x.undo(), k - 1);
            Due.fine(x, "as it was at that mark", x.trait(0, 0), k);
        }
        Due.refused(x, "none is left", x.undo(), 6);
        Due.fine(x, "as it is", x.trait(0, 0), 1);
        Due.fine(x, "mark", x.mark(), 1);
        x.weigh(0, 5);
        Due.fine(x, "undo", x.undo(), 0);
        Due.fine(x, "as it was", x.trait(0, 0), 1);
        // What is done behind an undo does not change the marks that are left.
        x.mark();
        x.weigh(0, 2);
        x.mark();
        x.undo();
        x.weigh(0, 7);
        x.take(0);
        Due.fine(x, "mark", x.mark(), 2);
        x.weigh(0, 8);
        Due.fine(x, "undo", x.undo(), 1);
        Due.fine(x, "the second", x.trait(0, 0), 7);
        Due.fine(x, "undo", x.undo(), 0);
        Due.fine(x, "the first", x.trait(0, 0), 1);
        Due.fine(x, "a lies", x.cellOf(0), 0);
    }

    /** Part 4: FRACTIONS have no common divisor, the bottom is above 0; 0 is 0 by 1. */
    private static void fractions() {
        LikeRegistry x = office();
        Due.fraction(x, "0 by 3", x.toil(0), 0, 1);
        Due.fraction(x, "3 by 3", x.toil(1), 1, 1);
        Due.fraction(x, "2 by 3", x.skill(1), 2, 3);
        Due.fraction(x, "0 by 256", x.smelt(0, 3), 0, 1);
        Due.fraction(x, "256 by 256", x.smelt(0, 0), 1, 1);
        Due.fraction(x, "1 by 1", x.smelt(3, 0), 1, 1);
        Due.fraction(x, "0 by 1", x.smelt(3, 1), 0, 1);
        Due.fraction(x, "64 by 256", x.smelt(0, 2), 1, 4);
        Due.fraction(x, "0", x.guess(7, 0), 0, 1);
        Due.daysStand(x, "swap 1 2;", 1);
        Due.fraction(x, "160 by 20", x.mean(0, 20), 8, 1);
        x.told(0);
        x.skill(9);
        Due.is("told latest", x.top(), 8);
        Due.is("told latest", x.bottom(), 1);
    }
}
