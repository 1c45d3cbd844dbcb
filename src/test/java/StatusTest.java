/**
 * Part 5, for every call, promise by promise: each STATUS number in its brackets where that one alone is due, at the
 * boundary and one step to either side of it; where two hold together, the first; and that a refused call changes
 * nothing else (see Rows).
 */
public final class StatusTest {
    public static void main(String[] args) {
        trays();
        texts();
        told();
        filing();
        takingAndSwapping();
        changing();
        walkingAndAsking();
        likeness();
        searching();
        looking();
        chains();
        howItLies();
        whatWasSeen();
        gamesAndOdds();
        days();
        marks();
        Due.end("StatusTest");
    }

    private static void trays() {
        Rows.of("5 tray, 1", States::office, "tray -1 0 1 !1", "tray 0 0 1 =1", "tray 3 0 1 =1", "tray 4 0 1 !1",
            "tray 0 -1 1 !1", "tray 0 3 1 =1", "tray 0 4 1 !1", "tray 0 0 -1 !1", "tray 0 0 0 =1", "tray 0 0 60 =1",
            "tray 0 0 61 !1", "tray -2147483648 0 1 !1", "tray 0 2147483647 1 !1", "tray 0 0 2147483647 !1");
        Rows.of("6 write, 1 2 3", States::office, "write -1 0 5 !1", "write 0 0 5 =1", "write 4 0 5 !1",
            "write 3 0 5 !2", "write 2 0 5 !3", "write 0 -1 5 !3", "write 0 8 5 =1", "write 0 9 5 !3",
            "write 0 -2147483648 5 !3", "write 0 2147483647 5 !3", "write 1 5 5 =1", "write 1 6 5 !3");
        Rows.of("6 write, the first of two", States::office, "write 3 -1 5 !2", "write 3 60 5 !2", "write 4 60 5 !1",
            "write -1 -1 5 !1");
        Rows.of("7 read, 1 2 3", States::office, "read -1 0 !1", "read 0 3 =4", "read 4 0 !1", "read 3 0 !2",
            "read 2 0 !3", "read 0 -1 !3", "read 0 0 =0", "read 0 8 =0", "read 0 9 !3", "read 0 7 =-1",
            "read 1 5 =77", "read 1 6 !3", "read 0 -2147483648 !3", "read 0 2147483647 !3");
        Rows.of("7 read, the first of two", States::office, "read 3 -1 !2", "read 3 60 !2", "read 4 60 !1", "read -1 -1 !1");
        Rows.of("8 pour, 1", States::office, "pour -1 0 0 0 1 !1", "pour 4 0 0 0 1 !1", "pour 0 0 -1 0 1 !1",
            "pour 0 0 4 0 1 !1", "pour 0 -1 0 0 1 !1", "pour 0 0 0 -1 1 !1", "pour 0 0 0 0 -1 !1", "pour 0 0 0 0 0 =1",
            "pour 0 0 0 0 -2147483648 !1");
        Rows.of("8 pour, 2", States::office, "pour 3 0 0 0 1 !2", "pour 0 0 3 0 1 !2", "pour 3 0 3 0 0 !2");
        Rows.of("8 pour, 8", States::office, "pour 0 0 1 0 1 !8", "pour 1 0 0 0 0 !8", "pour 2 0 1 0 0 !8");
        Rows.of("8 pour, 3", States::office, "pour 0 0 0 0 9 =1", "pour 0 0 0 0 10 !3", "pour 0 8 0 0 1 =1",
            "pour 0 9 0 0 1 !3", "pour 0 0 0 9 1 !3", "pour 0 0 0 8 1 =1", "pour 0 5 0 0 4 =1", "pour 0 6 0 0 4 !3",
            "pour 0 0 0 6 4 !3", "pour 0 0 2 0 1 !3", "pour 2 0 0 0 1 !3", "pour 2 0 0 0 0 =1", "pour 0 9 2 0 0 =1",
            "pour 0 10 2 0 0 !3", "pour 0 0 2 1 0 !3", "pour 0 2147483647 0 0 2147483647 !3",
            "pour 0 1 0 0 2147483647 !3", "pour 0 0 0 1 2147483647 !3");
        Rows.of("8 pour, the first of two, asked as 1 2 8 3", States::office, "pour 3 -1 0 0 1 !1", "pour 0 0 3 -1 1 !1",
            "pour 3 0 4 0 1 !1", "pour -1 0 3 0 1 !1", "pour 0 0 1 0 -1 !1", "pour 0 -1 1 0 1 !1", "pour 0 0 0 -1 99 !1",
            "pour 3 0 1 0 1 !2", "pour 1 0 3 0 99 !2", "pour 3 99 0 0 1 !2", "pour 0 9 1 0 1 !8", "pour 0 0 1 6 1 !8",
            "pour 1 0 2 0 1 !8");
    }

    private static void texts() {
        Rows.of("10 registry, 1", States::office, "registry -1 !1", "registry 0 =0", "registry 20 =0", "registry 21 !1",
            "registry -2147483648 !1", "registry 2147483647 !1");
        Rows.of("10 registry, 1 ahead of 9", StatusTest::withFaultyTape, "registry -1 !1", "registry 21 !1");
        Rows.of("11 days, 1", StatusTest::withLongTape, "days -1 !1", "days 0 =0", "days 300 =0", "days 301 !1",
            "days 320 !1", "days 321 !1", "days -2147483648 !1", "days 2147483647 !1");
        Rows.of("11 days, 1: more than the tape has", StatusTest::withTapeOfSort, "days 19 =1", "days 20 =1", "days 21 !1");
        Rows.of("11 days, 1 ahead of 9", StatusTest::withFaultyTape, "days -1 !1", "days 21 !1");
    }

    private static LikeRegistry withTapeOf(String text) {
        LikeRegistry x = States.office();
        x.registry(0);
        Due.registry(x, States.OFFICE);
        Due.days(x, "take a;");
        Due.feed(x, text);
        return x;
    }

    private static LikeRegistry withFaultyTape() {
        return withTapeOf("?                   ");
    }

    private static LikeRegistry withLongTape() {
        return withTapeOf(" ".repeat(320));
    }

    private static LikeRegistry withTapeOfSort() {
        return withTapeOf("sort;               ");
    }

    private static void told() {
        Rows.of("13 told, 1", States::office, "told -1 !1", "told 0 =3", "told 1 =5", "told 2 =2", "told 3 =3",
            "told 4 =2", "told 5 =3", "told 6 =8", "told 7 =21", "told 8 =42", "told 9 =0", "told 10 !1",
            "told -2147483648 !1", "told 2147483647 !1");
        Rows.of("14 trait, 1", States::office, "trait -1 0 !1", "trait 0 0 =3", "trait 2 0 =5", "trait 3 0 !1",
            "trait 0 -1 !1", "trait 0 1 =19", "trait 2 1 =20", "trait 0 2 !1", "trait 2147483647 0 !1", "trait 3 2 !1");
        Rows.of("14 trait, 1: at most eight", States::most, "trait 7 0 =9", "trait 7 1 =17", "trait 8 0 !1");
        Rows.of("15 traits, 1", States::office, "traits -1 !1", "traits 0 =3", "traits 3 =0", "traits 4 =5", "traits 5 !1");
        Rows.of("15 traits, 1: at most eight", States::most, "traits 0 =255", "traits 7 =0", "traits 8 !1");
        Rows.of("16 cellOf, 1 6", States::office, "cellOf -1 !1", "cellOf 0 =0", "cellOf 1 !6", "cellOf 4 =2",
            "cellOf 5 !1", "cellOf 2147483647 !1");
        Rows.of("17 paperIn, 1 6", States::office, "paperIn -1 !1", "paperIn 0 =0", "paperIn 4 =2", "paperIn 1 !6",
            "paperIn 5 !6", "paperIn 6 !1", "paperIn 2147483647 !1");
        Rows.of("17 paperIn, 1 6: the largest floor", States::most, "paperIn 19 !6", "paperIn 20 !1");
        Rows.of("18 clerk, 1", States::office, "clerk -1 !1", "clerk 0 =0", "clerk 1 =5", "clerk 2 !1");
        Rows.of("18 clerk, 1: at most four", States::most, "clerk 3 =19", "clerk 4 !1");
        Rows.of("13 to 18 of a new object", LikeRegistry::new, "trait 0 0 !1", "traits 0 !1", "cellOf 0 !1",
            "paperIn 0 !6", "paperIn 5 !6", "paperIn 6 !1", "clerk 0 !1");
    }

    private static void filing() {
        Rows.of("19 file, 1 7", States::office, "file -1 !1", "file 0 !7", "file 1 =1", "file 3 =1", "file 4 !7",
            "file 5 !1");
        Rows.of("19 file, 6", States::full, "file 2 !6");
        Rows.of("19 file, the first of two: 6 ahead of 7, 1 ahead of 6", States::full, "file 0 !6", "file 1 !6",
            "file 3 !1", "file -1 !1");
        Rows.of("19 file, one empty cell", () -> States.dressed("floor 3 by 1;paper a;paper b;paper c;paper d;"
            + "lies a at 0;lies b at 2;"), "file 2 =1", "file 3 =1", "file 0 !7");
        Rows.of("20 lay, 1 7", States::office, "lay -1 1 !1", "lay 1 1 =1", "lay 3 5 =1", "lay 5 1 !1", "lay 1 -1 !1",
            "lay 1 6 !1", "lay 0 1 !7", "lay 1 0 !7", "lay 0 2 !7", "lay 0 0 !7");
        Rows.of("20 lay, the first of two", States::office, "lay 0 6 !1", "lay 0 -1 !1", "lay 5 0 !1", "lay -1 0 !1");
    }

    private static void takingAndSwapping() {
        Rows.of("21 take, 1 7", States::office, "take -1 !1", "take 0 =0", "take 4 =2", "take 5 !1", "take 1 !7",
            "take 3 !7");
        Rows.of("22 swap, 1", States::office, "swap -1 0 !1", "swap 0 -1 !1", "swap 6 0 !1", "swap 0 6 !1",
            "swap 0 5 =5", "swap 5 0 =5");
        Rows.of("22 swap, 7", States::office, "swap 0 0 !7", "swap 1 1 !7", "swap 1 3 !7", "swap 5 1 !7", "swap 0 1 =5",
            "swap 1 0 =5", "swap 0 4 =0");
        Rows.of("22 swap, the first of two", States::office, "swap 6 6 !1", "swap -1 -1 !1", "swap 1 6 !1");
        Rows.of("23 sort", States::office, "sort =2");
    }

    private static void changing() {
        Rows.of("24 stain, 1 7", States::office, "stain -1 0 true !1", "stain 0 2 true =1", "stain 4 1 true =1",
            "stain 5 0 true !1", "stain 0 -1 true !1", "stain 0 3 true !1", "stain 0 0 true !7", "stain 0 2 false !7",
            "stain 0 0 false =1", "stain 4 2 true !7", "stain 3 0 false !7");
        Rows.of("24 stain, the first of two", States::office, "stain 0 3 false !1", "stain 5 0 false !1",
            "stain 0 -1 false !1");
        Rows.of("25 weigh, 1", States::office, "weigh -1 1 !1", "weigh 0 1 =1", "weigh 2 9 =1", "weigh 3 1 !1",
            "weigh 0 0 !1", "weigh 0 10 !1", "weigh 0 3 =1", "weigh 0 -2147483648 !1");
        Rows.of("28 scrawl, 1", States::office, "scrawl -1 !1", "scrawl 0 =5", "scrawl 7 =5", "scrawl 8 !1",
            "scrawl -2147483648 !1", "scrawl 2147483647 !1");
        Rows.of("28 scrawl, 4", States::most, "scrawl 0 !4", "scrawl 255 !4");
        Rows.of("28 scrawl, 1 ahead of 4", States::most, "scrawl 256 !1", "scrawl -1 !1");
        Rows.of("28 scrawl, the eighth", () -> States.dressed("paper a;paper b;paper c;paper d;paper e;paper f;paper g;"),
            "scrawl 0 =7", "scrawl 1 !1");
        Rows.of("29 rule, 1", States::office, "rule 5 0 !1", "rule 5 1 =1", "rule 5 99 =1", "rule 5 100 !1", "rule 6 -1 !1",
            "rule 6 0 =1", "rule 6 16 =1", "rule 6 17 !1", "rule 4 5 !1", "rule 7 5 !1", "rule -1 5 !1", "rule 5 -1 !1");
    }

    private static void walkingAndAsking() {
        Rows.of("26 walk, 1 7", States::office, "walk -1 1 !1", "walk 0 1 =1", "walk 1 0 =1", "walk 2 1 !1", "walk 0 -1 !1",
            "walk 0 5 =1", "walk 0 6 !1", "walk 0 0 !7", "walk 1 5 !7");
        Rows.of("27 ask, 1 6", States::office, "ask -1 1 !1", "ask 0 1 =0", "ask 1 4 =4", "ask 2 1 !1", "ask 0 -1 !1",
            "ask 0 7 =0", "ask 0 8 !1", "ask 0 4 !6", "ask 0 0 !6");
        Rows.of("27 ask, 1 ahead of 6", States::noneLies, "ask 0 1 !6", "ask 0 2 !1", "ask 1 1 !1", "ask 0 -1 !1");
        Rows.of("37 find, 1 6", States::office, "find -1 1 !1", "find 0 1 =0", "find 1 4 =4", "find 2 1 !1", "find 0 -1 !1",
            "find 0 7 =0", "find 0 8 !1", "find 0 4 !6", "find 0 0 !6");
        Rows.of("37 find, 1 ahead of 6", States::noneLies, "find 0 1 !6", "find 0 2 !1", "find 1 1 !1", "find 0 -1 !1");
        Rows.of("38 paces, 1", States::office, "paces -1 1 !1", "paces 0 1 =0", "paces 1 4 =1", "paces 2 1 !1",
            "paces 0 -1 !1", "paces 0 7 =0", "paces 0 8 !1", "paces 0 4 =0");
        Rows.of("38 paces also if he finds nothing", States::noneLies, "paces 0 1 =0", "paces 0 2 !1");
    }

    private static void likeness() {
        Rows.of("30 likeness, 1", States::office, "likeness -1 0 !1", "likeness 0 4 =3", "likeness 4 0 =3",
            "likeness 5 0 !1", "likeness 0 -1 !1", "likeness 0 5 !1", "likeness 0 0 !1", "likeness 4 4 !1",
            "likeness 5 5 !1", "likeness 0 3 =0");
        Rows.of("31 smell, 1", States::office, "smell -1 0 !1", "smell 0 0 =0", "smell 5 7 =0", "smell 6 0 !1",
            "smell 0 -1 !1", "smell 0 7 =5", "smell 0 8 !1");
        Rows.of("32 beside, 1 7", States::office, "beside -1 !1", "beside 0 =0", "beside 4 =0", "beside 5 !1", "beside 1 !7",
            "beside 3 !7");
        Rows.of("33 kinship, 1 7", States::office, "kinship -1 !1", "kinship 0 =0", "kinship 4 =0", "kinship 5 !1",
            "kinship 1 !7", "kinship 3 !7");
        Rows.of("34 likest, 1", States::office, "likest -1 !1", "likest 0 =1", "likest 4 =2", "likest 5 !1");
        Rows.of("34 likest, 6", () -> States.dressed("mark m weighs 1;paper p m;"), "likest 0 !6", "likest 1 !1",
            "likest -1 !1");
        Rows.of("34 likest of two", () -> States.dressed("paper p;paper q;"), "likest 0 =1", "likest 1 =0", "likest 2 !1");
        Rows.of("34 likest, 35 oddest without papers", LikeRegistry::new, "likest 0 !1", "oddest !6");
        Rows.of("35 oddest, one", () -> States.dressed("paper p;"), "oddest =0");
        Rows.of("36 filedIn, 1", States::office, "filedIn -1 !1", "filedIn 0 =1", "filedIn 3 =1", "filedIn 4 =1",
            "filedIn 5 !1");
        Rows.of("36 filedIn, 6, and 1 ahead of it", States::full, "filedIn 0 !6", "filedIn 2 !6", "filedIn 3 !1",
            "filedIn -1 !1");
    }

    private static void searching() {
        Rows.of("39 skill, 1", States::office, "skill -1 !1", "skill 0 =1/3", "skill 1 =2/3", "skill 2 !1");
        Rows.of("39 skill, 6, and 1 ahead of it", States::noneLies, "skill 0 !6", "skill 1 !1", "skill -1 !1");
        Rows.of("40 toil, 1", States::office, "toil -1 !1", "toil 0 =0/1", "toil 1 =1/1", "toil 2 !1");
        Rows.of("40 toil, 6, and 1 ahead of it", States::noneLies, "toil 0 !6", "toil 1 !1", "toil -1 !1");
        Rows.of("39, 40 of a new object", LikeRegistry::new, "skill 0 !1", "toil 0 !1");
    }

    private static void looking() {
        Rows.of("41 looking, 1 6", States::office, "looking 4 -1 !1", "looking 4 0 =2", "looking 4 1 =4", "looking 4 2 =0",
            "looking 4 3 !6", "looking 4 2147483647 !6", "looking 4 -2147483648 !1", "looking -1 0 !1", "looking 0 0 =0",
            "looking 7 0 =4", "looking 8 0 !1");
        Rows.of("41 looking, 1 ahead of 6", States::office, "looking 8 3 !1", "looking -1 3 !1");
        Rows.of("41 looking, none lies", States::noneLies, "looking 1 0 !6", "looking 1 -1 !1", "looking 2 0 !1");
        Rows.of("42 guess, 1 7", States::office, "guess -1 0 !1", "guess 0 0 =1/3", "guess 7 4 =1/1", "guess 8 0 !1",
            "guess 4 -1 !1", "guess 4 4 =1/2", "guess 4 0 =0/1", "guess 4 5 !1", "guess 4 1 !7", "guess 4 3 !7");
        Rows.of("42 guess, 1 ahead of 7", States::office, "guess 8 1 !1", "guess -1 3 !1");
    }

    private static void chains() {
        Rows.of("43 chain, 1 6", States::office, "chain -1 0 !1", "chain 0 2 =3", "chain 2 0 =3", "chain 5 0 !1",
            "chain 0 -1 !1", "chain 0 4 =2", "chain 0 5 !1", "chain 0 0 =1", "chain 3 3 =1", "chain 0 3 !6", "chain 3 0 !6",
            "chain 5 5 !1");
        Rows.of("43 chain, 1 ahead of 6", States::office, "chain 3 5 !1", "chain -1 3 !1");
        Rows.of("44 chainAt, 1 6", States::office, "chainAt 0 2 -1 !1", "chainAt 0 2 0 =0", "chainAt 0 2 1 =4",
            "chainAt 0 2 2 =2", "chainAt 0 2 3 !6", "chainAt 0 2 2147483647 !6", "chainAt 3 3 0 =3", "chainAt 3 3 1 !6",
            "chainAt 0 3 0 !6", "chainAt -1 0 0 !1", "chainAt 5 0 0 !1", "chainAt 0 -1 0 !1", "chainAt 0 5 0 !1");
        Rows.of("44 chainAt, 1 ahead of 6", States::office, "chainAt 0 3 -1 !1", "chainAt 0 5 9 !1", "chainAt 5 0 9 !1");
        Rows.of("45 group, 1", States::office, "group -1 !1", "group 0 =23", "group 3 =8", "group 4 =23", "group 5 !1");
        Rows.of("46 groups", States::office, "groups =2");
        Rows.of("43 to 46 of a new object", LikeRegistry::new, "chain 0 0 !1", "chainAt 0 0 0 !1", "group 0 !1", "groups =0");
    }

    private static void howItLies() {
        Rows.of("47 best", States::office, "best =0");
        Rows.of("48 bestIn, 1 6", States::office, "bestIn -1 !1", "bestIn 0 =0", "bestIn 2 =2", "bestIn 4 =4", "bestIn 1 !6",
            "bestIn 5 !6", "bestIn 6 !1");
        Rows.of("49 gain, 50 gainAt, 1", States::office, "gain =8", "gainAt -1 !1", "gainAt 0 =1", "gainAt 1 =2",
            "gainAt 2 !1");
        Rows.of("49 gain, 50 gainAt, 6, and 1 ahead of it", States::noneLies, "gain !6", "gainAt 0 !6", "gainAt 1 !6",
            "gainAt 2 !1", "gainAt -1 !1");
        Rows.of("49 gain, 6: by none above 0", () -> States.dressed("floor 2 by 1;mark m weighs 1;paper a m;paper b m;"
            + "lies a at 0;lies b at 1;"), "gain !6", "gainAt 0 !6", "gainAt 1 !6");
        Rows.of("51 disorder, 52 swaps", States::office, "disorder =1", "swaps =1");
        Rows.of("53 hide, 1", States::office, "hide -1 !1", "hide 0 =0", "hide 31 =0", "hide 32 !1", "hide 2147483647 !1",
            "hide -2147483648 !1");
        Rows.of("54 hideSet, 1", States::office, "hideSet -1 !1", "hideSet 0 =0", "hideSet 31 =0", "hideSet 32 !1",
            "hideSet 2147483647 !1", "hideSet -2147483648 !1");
        Rows.of("53, 54 of eight papers", States::most, "hide 255 =0", "hide 256 !1", "hideSet 255 =0", "hideSet 256 !1");
        Rows.of("47 to 54 of a new object", LikeRegistry::new, "best =0", "bestIn 0 !6", "bestIn 6 !1", "gain !6",
            "gainAt 0 !6", "disorder =0", "swaps =0", "hide 0 =0", "hide 1 !1", "hideSet 0 =0", "hideSet 1 !1");
    }

    private static void whatWasSeen() {
        Rows.of("55 weighed, 1", States::office, "weighed -1 0 !1", "weighed 4 0 !1", "weighed 0 -1 !1", "weighed 0 21 !1",
            "weighed 0 0 =27", "weighed 0 1 =18", "weighed 0 2 =10");
        Rows.of("55 weighed, 2 3 5", States::office, "weighed 3 0 !2", "weighed 2 0 =27", "weighed 2 1 !3", "weighed 1 2 !5",
            "weighed 1 1 =27", "weighed 1 3 !3", "weighed 0 3 !5");
        Rows.of("55 weighed, the first of two", States::office, "weighed 3 21 !1", "weighed 3 -1 !1", "weighed 0 20 !3",
            "weighed 2 21 !1", "weighed 3 20 !2", "weighed 0 4 !3", "weighed 4 4 !1");
        Rows.of("56 sure, 1", States::office, "sure -1 0 1 !1", "sure 3 0 1 !1", "sure 0 -1 1 !1", "sure 0 4 1 !1",
            "sure 0 0 -1 !1", "sure 0 0 21 !1");
        Rows.of("56 sure, 2 3 5 6", States::office, "sure 0 3 0 !2", "sure 0 2 1 !3", "sure 0 0 3 !5", "sure 0 0 1 !6",
            "sure 2 0 2 !6", "sure 0 2 0 !6");
        Rows.of("56 sure, the first of two", States::office, "sure 3 3 0 !1", "sure 3 0 4 !1", "sure 3 0 3 !1",
            "sure 3 0 0 !1", "sure 0 3 21 !1", "sure 0 3 20 !2", "sure 0 0 4 !3", "sure 0 0 20 !3", "sure 0 1 2 !5");
        Rows.of("55, 56 in twenty threes", StatusTest::withTwentyThrees, "weighed 0 20 =1", "weighed 0 19 =54",
            "weighed 0 21 !1", "sure 0 0 20 =3", "sure 1 0 20 =1", "sure 3 0 20 =1", "sure 4 0 20 !1", "sure 0 0 19 !6",
            "sure 3 0 19 !6", "sure 0 0 0 !6");
        Rows.of("55, 56, 5: no PAPER", StatusTest::withTwentyThrees, "weighed 1 0 =81", "weighed 1 1 !5", "weighed 2 1 !5",
            "weighed 3 1 !5", "sure 0 1 1 !5", "sure 0 2 1 !5", "sure 0 3 1 !5");
    }

    /** By nineteen threes a weighs no less than b, by the twentieth no less than b, c, d together. */
    private static LikeRegistry withTwentyThrees() {
        LikeRegistry x = States.dressed("mark a weighs 1;mark b weighs 1;mark c weighs 1;mark d weighs 1;"
            + "paper u a b c d;paper v a;paper w b;paper y b c d;");
        x.tray(0, 0, 60);
        for (int k = 0; k < 60; k++) {
            x.write(0, k, k == 59 ? 3 : k % 3);
        }
        long[] noPapers = {4, -1, 1L << 32};
        for (int k = 0; k < 3; k++) {
            x.tray(1 + k, 3, 3);
            x.write(1 + k, k, noPapers[k]);
        }
        return x;
    }

    private static void gamesAndOdds() {
        Rows.of("57 game, 1", States::office, "game -1 !1", "game 0 =0", "game 1 =8", "game 3 .", "game 4 !1",
            "game 2147483647 !1");
        Rows.of("58 moveOf, 1", States::office, "moveOf -1 !1", "moveOf 0 !1", "moveOf 1 =102", "moveOf 3 .", "moveOf 4 !1");
        Rows.of("58 moveOf, 6, and 1 ahead of it", States::noneLies, "moveOf 1 !6", "moveOf 3 !6", "moveOf 0 !1",
            "moveOf 4 !1", "game 3 =0");
        Rows.of("59 smelt, 1", States::office, "smelt -1 0 !1", "smelt 0 0 =1/1", "smelt 4 1 =3/4", "smelt 5 0 !1",
            "smelt 0 -1 !1", "smelt 0 2 =1/4", "smelt 0 3 =0/1", "smelt 0 8 =0/1", "smelt 0 9 !1");
        Rows.of("59 smelt, 8 of 8", States::most, "smelt 0 8 =1/256", "smelt 0 9 !1", "smelt 8 0 !1");
        Rows.of("60 copyFloor, 1 2 3", States::office, "copyFloor -1 !1", "copyFloor 0 =6", "copyFloor 1 =6",
            "copyFloor 4 !1", "copyFloor 3 !2", "copyFloor 2 !3");
        Rows.of("60 copyFloor, 3: one place too few", () -> States.dressed("floor 5 by 2;paper p;lies p at 9;"),
            "copyFloor 0 !3", "copyFloor 1 !3", "copyFloor 3 !2");
        Rows.of("60 copyFloor, just enough", () -> States.dressed("floor 3 by 3;paper p;lies p at 8;"), "copyFloor 0 =9",
            "copyFloor 1 !3");
    }

    private static void days() {
        Rows.of("61 live, 1", States::office, "live -1 !1", "live 0 =4", "live 9999 =4", "live 10000 !1",
            "live -2147483648 !1", "live 2147483647 !1");
        Rows.of("61 live, 6, and 1 ahead of it", States::withoutDays, "live 0 !6", "live 9999 !6", "live -1 !1",
            "live 10000 !1");
        Rows.of("62 lived, 1", States::office, "lived -1 !1", "lived 0 =220", "lived 1 =3", "lived 2 =1", "lived 3 =1",
            "lived 4 =1", "lived 5 !1");
        Rows.of("62 lived, 6, and 1 ahead of it", LikeRegistry::new, "lived 0 !6", "lived 4 !6", "lived -1 !1", "lived 5 !1");
        Rows.of("63 mean, 1", States::office, "mean -1 1 !1", "mean 0 1 .", "mean 9999 1 .", "mean 10000 1 !1", "mean 0 0 !1",
            "mean 0 -1 !1", "mean 0 20 .", "mean 0 21 !1", "mean 9980 20 .", "mean 9981 20 !1", "mean 9998 2 .",
            "mean 9999 2 !1", "mean 1 2147483647 !1", "mean 2147483647 20 !1", "mean -2147483648 1 !1");
        Rows.of("63 mean, 6, and 1 ahead of it", States::withoutDays, "mean 0 1 !6", "mean 9999 1 !6", "mean 0 0 !1",
            "mean 0 21 !1", "mean 9999 2 !1", "mean -1 1 !1");
    }

    private static void marks() {
        Rows.of("64 mark, the second", States::office, "mark =2");
        Rows.of("64 mark, the third", () -> States.marked(2), "mark =3");
        Rows.of("64 mark, 4", () -> States.marked(3), "mark !4");
        Rows.of("65 undo", () -> States.marked(3), "undo =2");
        Rows.of("65 undo, the last", States::office, "undo =0");
        Rows.of("65 undo, 6", LikeRegistry::new, "undo !6");
        Rows.of("65 undo, 6: all are gone", StatusTest::allUndone, "undo !6");
    }

    private static LikeRegistry allUndone() {
        LikeRegistry x = States.marked(3);
        x.undo();
        x.undo();
        x.undo();
        return x;
    }
}
