/** Promises 9 to 18: the tape, the two texts with their FAULTS, and what they tell. */
public final class TextsTest {
    public static void main(String[] args) {
        feed();
        registryTaken();
        registryTokens();
        registryFaults();
        registryCells();
        tapeAndFault();
        daysTaken();
        daysFaults();
        told();
        Due.end("TextsTest");
    }

    private static void feed() {
        LikeRegistry x = new LikeRegistry();
        for (int k = 1; k <= 45; k++) {
            Due.is("feed " + k, x.feed(0x20202020, 0x20202020, 0x20202020, 0x20202020, 0x20202020), 20 * k);
        }
        Due.is("one feed too many", x.feed(0, 0, 0, 0, 0), -1);
        Due.refused(x, "more than the tape has", x.registry(901), 1);
        Due.fine(x, "900 blanks", x.registry(900), 0);
        Due.refused(x, "the tape is empty", x.registry(1), 1);
        // "near 7;" by its bytes, the highest first.
        Due.is("feed", x.feed(0x6E656172, 0x20373B20, 0x0A200A20, 0, 0), 20);
        Due.fine(x, "registry", x.registry(12), 0);
        Due.fine(x, "near", x.told(5), 7);
    }

    private static void registryTaken() {
        LikeRegistry x = Due.with("floor 5 by 4;near 99;odds 0;mark abcdefgh weighs 9;mark b weighs 1;"
            + "paper p abcdefgh b;paper q;clerk k at 19;clerk l at 0;lies q at 0;");
        int[] due = {2, 2, 2, 5, 4, 99, 0, 2, (1 << 20) - 2, 0};
        for (int what = 0; what < due.length; what++) {
            Due.fine(x, "told " + what, x.told(what), due[what]);
        }
        Due.fine(x, "traits", x.traits(0), 3);
        Due.fine(x, "clerk", x.clerk(0), 19);
        Due.fine(x, "an empty text", Due.registry(x, ""), 0);
        Due.fine(x, "floor without", x.told(3), 3);
        Due.fine(x, "high without", x.told(4), 2);
        Due.fine(x, "near without", x.told(5), 3);
        Due.fine(x, "odds without", x.told(6), 8);
        Due.fine(x, "no clerks", x.told(2), 0);
        x = Due.with("paper p;clerk k at 0;");
        Due.daysStand(x, "sort;", 1);
        Due.fine(x, "registry", Due.registry(x, "paper q;"), 1);
        Due.refused(x, "no days any more", x.live(0), 6);
    }

    private static void registryTokens() {
        LikeRegistry x = new LikeRegistry();
        Due.fine(x, "no blanks", Due.registry(x, "floor 2by 4;near\n0007;mark a\n weighs9;paper p a;lies p at7;"), 1);
        Due.fine(x, "wide", x.told(3), 2);
        Due.fine(x, "near", x.told(5), 7);
        Due.fine(x, "weight", x.trait(0, 0), 9);
        Due.fine(x, "cell", x.cellOf(0), 7);
        Due.registryFault("floor2 by 2; ?", 1, 13);
        Due.registryFault("near 00007;", 1, 5);
        Due.registryFault("near 1;\t", 1, 7);
        Due.registryFault("Near 1;", 1, 0);
        Due.registryFault("near 1;\u00e9", 1, 7);
        Due.registryFault("near 1 ,", 1, 7);
        Due.registryFault("near 1;12345", 1, 7);
        Due.registryFault("near ?;", 1, 5);
        // A fault ahead of it comes first.
        Due.registryFault("near near ?", 2, 5);
        Due.registryFault("near 1 12345;", 1, 7);
    }

    private static void registryFaults() {
        String[] cannotStand = {"floor@5", "floor 3@7", "floor 3 by@10", "floor 3 by 2@12", "near 1@6", "mark@4",
            "mark a@6", "paper p@7", "clerk c at@10", "lies@4", "near 1  @8"};
        for (String row : cannotStand) {
            String text = row.substring(0, row.indexOf('@'));
            Due.registryFault(text, 2, text.length());
        }
        Due.registryFault("file", 2, 0);
        Due.registryFault("abc", 2, 0);
        Due.registryFault(";", 2, 0);
        Due.registryFault("7", 2, 0);
        Due.registryFault("near 1;;", 2, 7);
        Due.registryFault("near <", 2, 5);
        Due.registryFault("floorfloor 3 by 2;", 2, 0);
        Due.registryFault("paper 7", 2, 6);
        Due.registryFault("paper abcdefghi", 2, 6);
        Due.registryFault("paper p at;", 2, 8);
        Due.registryFault("paper p abcdefghi;", 2, 8);
        Due.registryFault("clerk c by 1;", 2, 8);
        for (String word : ("floor by near odds mark weighs paper clerk at lies file take swap sort ask any when"
            + " beside total loop end stop").split(" ")) {
            Due.registryFault("paper " + word + ";", 2, 6);
            Due.registryFault("mark " + word + ";", 2, 5);
            Due.registryFault("clerk " + word + ";", 2, 6);
        }
        // The first fault stays, whatever comes behind it.
        Due.registryFault("lies;near near", 2, 4);
        Due.registryFault("paper;near near", 2, 5);
        Due.registryFault("mark m weighs;near near", 2, 13);
        Due.registryFault("clerk c at;near near", 2, 10);
        Due.registryFault("floor;near near", 2, 5);
        Due.registryFault("odds;near near", 2, 4);
        Due.registryFault("near;near near", 2, 4);
        Due.registryFault("paper p;mark p weighs 1;", 3, 13);
        Due.registryFault("paper p;clerk p at 1;", 3, 14);
        Due.registryFault("clerk p at 1;paper p;", 3, 19);
        Due.registryFault("paper p p;", 3, 8);
        Due.registryFault("paper p;paper q p;", 3, 16);
        Due.registryFault("mark m weighs 1;lies m at 0;", 3, 21);
        Due.registryFault("clerk c at 0;lies c at 0;", 3, 18);
        Due.registryFault("paper p m;mark m weighs 1;", 3, 8);
        Due.registryFault("odds 1;odds 2;", 5, 7);
        Due.registryFault("near 1;near 2;", 5, 7);
        Due.registryFault("floor 2 by 2;floor", 5, 13);
        Due.registryFault("clerk c at 0;floor", 5, 13);
        Due.registryFault("paper p;lies p at 0;floor 1 by 1;", 5, 20);
        Due.registryFault("paper p;paper q;lies p at 0;lies q at 0;", 5, 38);
        Due.registryFault("paper p;lies p at 0;lies p at 0;", 5, 25);
        Due.registryFault("mark a weighs 1;mark b weighs 1;paper p a b a;", 5, 44);
    }

    private static void registryCells() {
        Due.registryFault("floor 2 by 2;clerk c at 4;", 4, 24);
        Due.registryFault("floor 2 by 2;paper p;lies p at 4;", 4, 31);
        Due.registryFault("floor 3 by 0;", 4, 11);
        Due.registryFault("floor 6 by 1;", 4, 6);
        Due.registryFault("floor 0 by 1;", 4, 6);
        Due.registryFault("floor 1 by 5;", 4, 11);
        Due.registryFault("near 0;", 4, 5);
        Due.registryFault("near 100;", 4, 5);
        Due.registryFault("mark m weighs 0;", 4, 14);
        Due.registryFault("mark m weighs 10;", 4, 14);
        Due.registryFault("odds 17;", 4, 5);
        Due.registryFault("near 9999;", 4, 5);
        LikeRegistry x = Due.with("floor 1 by 1;clerk c at 0;clerk d at 0;odds 16;near 1;");
        Due.fine(x, "one cell", x.told(8), 1);
        x = Due.with("floor 5 by 4;clerk c at 19;");
        Due.fine(x, "the last cell", x.clerk(0), 19);
        String all = "mark a weighs 1;mark b weighs 2;mark c weighs 3;mark d weighs 4;mark e weighs 5;"
            + "mark f weighs 6;mark g weighs 7;mark h weighs 8;paper i a b c d e f g h;paper j;paper k;paper l;"
            + "paper m;paper n;paper o;paper p;clerk q at 0;clerk r at 0;clerk s at 0;clerk t at 0;";
        x = Due.with(all);
        Due.fine(x, "all traits", x.traits(0), 255);
        Due.fine(x, "papers", x.told(1), 8);
        Due.fine(x, "clerks", x.told(2), 4);
        Due.registryFault(all + "mark a", 6, all.length());
        Due.registryFault(all + " paper a", 6, all.length() + 1);
        Due.registryFault(all + "clerk", 6, all.length());
    }

    private static void tapeAndFault() {
        LikeRegistry x = Due.with("near 9;paper p;");
        Due.daysStand(x, "file p;", 1);
        Due.feed(x, "near 8;");
        Due.refused(x, "n below 0", x.registry(-1), 1);
        Due.refused(x, "n above the tape", x.registry(21), 1);
        Due.is("fault stays", x.fault(0), 0);
        Due.is("place stays", x.fault(1), -1);
        Due.is("the tape stays", x.feed(0, 0, 0, 0, 0), 40);
        Due.refused(x, "a fault", x.registry(8), 9);
        Due.is("fault", x.fault(0), 1);
        Due.is("place", x.fault(1), 7);
        Due.is("fault 2", x.fault(2), -1);
        Due.is("fault -1", x.fault(-1), -1);
        Due.is("the tape is empty by a fault", x.feed(0, 0, 0, 0, 0), 20);
        Due.fine(x, "the old one stays", x.told(5), 9);
        Due.fine(x, "the old days stay", x.live(0), 1);
        Due.fine(x, "none of it", x.registry(0), 0);
        Due.is("the rest of the tape is gone", x.feed(0, 0, 0, 0, 0), 20);
        Due.is("fault", x.fault(0), 0);
    }

    private static void daysTaken() {
        LikeRegistry x = Due.with("mark m weighs 2;paper p m;paper q m;clerk k at 1;");
        Due.daysStand(x, "", 0);
        Due.daysStand(x, "file p;take q;swap 0 5;sort;ask k p;any;stop;", 7);
        Due.daysStand(x, "when lies p;file q;end;when beside p q;end;when total<9999;stop;end;", 5);
        Due.daysStand(x, "loop 99;loop 1;when total=0;any;end;end;end;when total>7;end;", 5);
        Due.daysStand(x, "sort;".repeat(30), 30);
        Due.daysStand(x, "loop 2;when lies p;loop 3;end;loop 4;end;end;end;loop 5;end;", 5);
        Due.feed(x, " ".repeat(320));
        Due.refused(x, "above 300", x.days(301), 1);
        Due.refused(x, "below 0", x.days(-1), 1);
        Due.fine(x, "300", x.days(300), 0);
        Due.refused(x, "the tape is empty", x.days(1), 1);
        Due.daysStand(x, "file p;", 1);
        Due.refused(x, "a fault", Due.days(x, "file x;"), 9);
        Due.fine(x, "the old days stay", x.live(0), 1);
    }

    private static void daysFaults() {
        LikeRegistry x = Due.with("floor 2 by 2;mark m weighs 2;paper p m;paper q m;clerk k at 1;");
        Due.daysFault(x, "sort;?", 1, 5);
        Due.daysFault(x, "swap 00000 1;", 1, 5);
        Due.daysFault(x, "end;", 2, 0);
        Due.daysFault(x, "loop 2;end;end;", 2, 11);
        Due.daysFault(x, "loop 2;", 2, 7);
        Due.daysFault(x, "loop 2;end", 2, 10);
        Due.daysFault(x, "when lies p;sort; ", 2, 18);
        Due.daysFault(x, "floor 2 by 2;", 2, 0);
        Due.daysFault(x, "lies p;", 2, 0);
        Due.daysFault(x, "file 1;", 2, 5);
        Due.daysFault(x, "file sort;", 2, 5);
        Due.daysFault(x, "file abcdefghi;", 2, 5);
        Due.daysFault(x, "sort", 2, 4);
        Due.daysFault(x, "swap 1;", 2, 6);
        Due.daysFault(x, "swap p 1;", 2, 5);
        Due.daysFault(x, "when p;", 2, 5);
        Due.daysFault(x, "when sort;", 2, 5);
        Due.daysFault(x, "when total 5;", 2, 11);
        Due.daysFault(x, "when total;", 2, 10);
        Due.daysFault(x, "when total<p;", 2, 11);
        Due.daysFault(x, "when total<=5;", 2, 11);
        Due.daysFault(x, "when beside p;", 2, 13);
        Due.daysFault(x, "loop;", 2, 4);
        Due.daysFault(x, "any p;", 2, 4);
        Due.daysFault(x, "file m;", 3, 5);
        Due.daysFault(x, "take k;", 3, 5);
        Due.daysFault(x, "ask p p;", 3, 4);
        Due.daysFault(x, "ask k k;", 3, 6);
        Due.daysFault(x, "ask k m;", 3, 6);
        Due.daysFault(x, "when lies k;end;", 3, 10);
        Due.daysFault(x, "when beside p k;end;", 3, 14);
        Due.daysFault(x, "swap 4 0;", 4, 5);
        Due.daysFault(x, "swap 0 4;", 4, 7);
        Due.daysFault(x, "loop 0;end;", 4, 5);
        Due.daysFault(x, "loop 100;end;", 4, 5);
        Due.daysFault(x, "sort;".repeat(30) + "any", 6, 150);
        Due.daysFault(x, "sort;".repeat(30) + "end", 2, 150);
        Due.daysFault(x, "sort;".repeat(30) + "by", 2, 150);
        Due.daysFault(x, "loop 1;when lies p;loop 1;loop 1;", 7, 26);
        Due.daysFault(x, "loop 1;when lies p;loop 1;when", 7, 26);
        Due.daysFault(x, "loop 1;loop 1;loop 1;" + "any;".repeat(27) + "loop", 6, 129);
    }

    private static void told() {
        LikeRegistry x = Due.with("floor 2 by 2;mark a weighs 3;mark b weighs 5;paper p a b;paper q b;paper r a;"
            + "clerk k at 3;lies p at 0;lies q at 1;lies r at 2;");
        Due.fine(x, "those that lie", x.told(7), 7);
        Due.fine(x, "empty cells", x.told(8), 8);
        Due.fine(x, "total", x.told(9), 8);
        Due.refused(x, "told -1", x.told(-1), 1);
        Due.refused(x, "told 10", x.told(10), 1);
        Due.fine(x, "weight", x.trait(1, 0), 5);
        Due.fine(x, "who has it", x.trait(1, 1), 3);
        Due.fine(x, "who has the other", x.trait(0, 1), 5);
        Due.refused(x, "trait 2", x.trait(2, 0), 1);
        Due.refused(x, "trait -1", x.trait(-1, 0), 1);
        Due.refused(x, "what 2", x.trait(0, 2), 1);
        Due.refused(x, "what -1", x.trait(0, -1), 1);
        Due.fine(x, "traits", x.traits(0), 3);
        Due.fine(x, "traits", x.traits(1), 2);
        Due.refused(x, "traits 3", x.traits(3), 1);
        Due.refused(x, "traits -1", x.traits(-1), 1);
        Due.fine(x, "cellOf", x.cellOf(2), 2);
        Due.refused(x, "cellOf 3", x.cellOf(3), 1);
        Due.refused(x, "cellOf -1", x.cellOf(-1), 1);
        Due.fine(x, "paperIn", x.paperIn(1), 1);
        Due.refused(x, "paperIn an empty cell", x.paperIn(3), 6);
        Due.refused(x, "paperIn 4", x.paperIn(4), 1);
        Due.refused(x, "paperIn -1", x.paperIn(-1), 1);
        x.take(2);
        Due.refused(x, "cellOf what does not lie", x.cellOf(2), 6);
        Due.fine(x, "clerk", x.clerk(0), 3);
        Due.refused(x, "clerk 1", x.clerk(1), 1);
        Due.refused(x, "clerk -1", x.clerk(-1), 1);
    }
}
