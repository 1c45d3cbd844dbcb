import java.util.Arrays;

public final class LikeRegistry {
    public static final int NONE = -1;

    // STATUS, as the document numbers it.
    private static final int FINE = 0;
    private static final int WRONG_NUMBER = 1;
    private static final int MISSING_TRAY = 2;
    private static final int NO_PLACE = 3;
    private static final int TOO_MANY = 4;
    private static final int WRONG_IN_TRAY = 5;
    private static final int NONE_SUCH = 6;
    private static final int CANNOT_BE = 7;
    private static final int UNLIKE_SORTS = 8;
    private static final int FAULTY = 9;

    // FAULTS of the two texts.
    private static final int NO_TOKEN = 1;
    private static final int CANNOT_STAND = 2;
    private static final int WRONG_NAME = 3;
    private static final int WRONG_VALUE = 4;
    private static final int TOLD_ALREADY = 5;
    private static final int ONE_TOO_MANY = 6;
    private static final int TOO_DEEP = 7;

    // The document's limits.
    private static final int MOST_TRAYS = 4;
    private static final int MOST_SORT = 3;
    private static final int MOST_NUMBERS = 60;
    private static final int MOST_TAPE = 900;
    private static final int MOST_DAYS_TEXT = 300;
    private static final int FED_AT_ONCE = 20;
    private static final int MOST_WIDE = 5;
    private static final int MOST_HIGH = 4;
    private static final int MOST_CELLS = 20;
    private static final int MOST_NEAR = 99;
    private static final int MOST_ODDS = 16;
    private static final int MOST_WEIGHT = 9;
    private static final int MOST_TRAITS = 8;
    private static final int MOST_PAPERS = 8;
    private static final int MOST_CLERKS = 4;
    private static final int MOST_COUPLES = 28;
    private static final int MOST_LETTERS = 8;
    private static final int MOST_DIGITS = 4;
    private static final int MOST_NUMBER = 9999;
    private static final int MOST_STEPS = 30;
    private static final int MOST_WITHIN = 3;
    private static final int MOST_LOOPS = 99;
    private static final int MOST_STEPS_LIVED = 300;
    private static final int MOST_SEED = 9999;
    private static final int MOST_SEEDS = 20;
    private static final int MOST_THREES = 20;
    private static final int MOST_ROW_WEIGHT = 3;
    private static final int MOST_ROWS = 6561;
    private static final int MOST_TURNS = 3;
    private static final int MOST_MARKS = 3;
    private static final int SIDES = 4;

    // The words that no NAME may be, a blank behind each; the numbers below are their order here.
    private static final String WORDS =
        "floor by near odds mark weighs paper clerk at lies file take swap sort ask any when beside total loop end stop ";
    private static final int WORD_COUNT = 22;
    private static final int FLOOR = 0;
    private static final int BY = 1;
    private static final int NEAR = 2;
    private static final int ODDS = 3;
    private static final int MARK = 4;
    private static final int WEIGHS = 5;
    private static final int PAPER = 6;
    private static final int CLERK = 7;
    private static final int AT = 8;
    private static final int LIES = 9;
    private static final int FILE = 10;
    private static final int TAKE = 11;
    private static final int SWAP = 12;
    private static final int SORT = 13;
    private static final int ASK = 14;
    private static final int ANY = 15;
    private static final int WHEN = 16;
    private static final int BESIDE = 17;
    private static final int TOTAL = 18;
    private static final int LOOP = 19;
    private static final int END = 20;
    private static final int STOP = 21;

    private static final int TOKEN_END = 0;
    private static final int TOKEN_BAD = 1;
    private static final int TOKEN_WORD = 2;
    private static final int TOKEN_NUMBER = 3;
    private static final int TOKEN_SIGN = 4;

    private int statusNow;
    private long topNow;
    private long bottomNow;
    private int faultKind;
    private int faultPlace;
    private int marked;
    private Office now;
    private Office draft;
    private Days daysNow;
    private Days daysDraft;
    private final Tray[] trays;
    private final Office[] markedOffices;
    private final Days[] markedDays;
    private final Text text;
    private final Life life;
    private final Life trial;
    private final BestLay bestLay;
    private final Game play;
    private final Weighing weighing;

    public LikeRegistry() {
        bottomNow = 1;
        faultKind = NONE;
        faultPlace = NONE;
        now = new Office();
        draft = new Office();
        daysNow = new Days();
        daysDraft = new Days();
        trays = new Tray[MOST_TRAYS];
        for (int k = 0; k < MOST_TRAYS; k++) {
            trays[k] = new Tray();
        }
        markedOffices = new Office[MOST_MARKS];
        markedDays = new Days[MOST_MARKS];
        for (int k = 0; k < MOST_MARKS; k++) {
            markedOffices[k] = new Office();
            markedDays[k] = new Days();
        }
        text = new Text();
        life = new Life();
        trial = new Life();
        bestLay = new BestLay();
        play = new Game();
        weighing = new Weighing();
    }

    public int status() {
        return statusNow;
    }

    public long top() {
        return topNow;
    }

    public long bottom() {
        return bottomNow;
    }

    // ---- TRAYS

    public boolean tray(int tray, int sort, int many) {
        if (!isTray(tray) || sort < 0 || sort > MOST_SORT || many < 0 || many > MOST_NUMBERS) {
            return deny(WRONG_NUMBER);
        }
        trays[tray].makeZeros(sort, many);
        return grant();
    }

    public boolean write(int tray, int place, long v) {
        int why = whyNoPlace(tray, place);
        if (why != FINE) {
            return deny(why);
        }
        trays[tray].put(place, v);
        return grant();
    }

    public long read(int tray, int place) {
        int why = whyNoPlace(tray, place);
        if (why != FINE) {
            return refuse(why);
        }
        statusNow = FINE;
        return trays[tray].numberAt(place);
    }

    public boolean pour(int from, int place, int to, int at, int many) {
        if (!isTray(from) || !isTray(to) || place < 0 || at < 0 || many < 0) {
            return deny(WRONG_NUMBER);
        }
        Tray source = trays[from];
        Tray goal = trays[to];
        if (!source.there || !goal.there) {
            return deny(MISSING_TRAY);
        }
        if (source.sort != goal.sort) {
            return deny(UNLIKE_SORTS);
        }
        if (!source.reaches(place, many) || !goal.reaches(at, many)) {
            return deny(NO_PLACE);
        }
        System.arraycopy(source.numbers, place, goal.numbers, at, many);
        return grant();
    }

    // ---- texts

    public int feed(int a, int b, int c, int d, int e) {
        if (text.taped + FED_AT_ONCE > MOST_TAPE) {
            return NONE;
        }
        text.putFour(a);
        text.putFour(b);
        text.putFour(c);
        text.putFour(d);
        text.putFour(e);
        return text.taped;
    }

    public int registry(int n) {
        if (n < 0 || n > text.taped) {
            return refuse(WRONG_NUMBER);
        }
        text.open(n);
        new RegistryReader(text, draft).readAll();
        if (!keepFault()) {
            return refuse(FAULTY);
        }
        Office old = now;
        now = draft;
        draft = old;
        daysNow.clear();
        return answer(now.paperCount);
    }

    public int days(int n) {
        if (n < 0 || n > text.taped || n > MOST_DAYS_TEXT) {
            return refuse(WRONG_NUMBER);
        }
        text.open(n);
        new DaysReader(text, now, daysDraft).readAll();
        if (!keepFault()) {
            return refuse(FAULTY);
        }
        Days old = daysNow;
        daysNow = daysDraft;
        daysDraft = old;
        return answer(daysNow.many);
    }

    public int fault(int what) {
        if (what == 0) {
            return faultKind;
        }
        return what == 1 ? faultPlace : NONE;
    }

    public int told(int what) {
        switch (what) {
            case 0: return answer(now.traitCount);
            case 1: return answer(now.paperCount);
            case 2: return answer(now.clerkCount);
            case 3: return answer(now.wide);
            case 4: return answer(now.high);
            case 5: return answer(now.near);
            case 6: return answer(now.odds);
            case 7: return answer(now.lyingSet());
            case 8: return answer(now.emptyCells());
            case 9: return answer(now.wholeLikeness());
            default: return refuse(WRONG_NUMBER);
        }
    }

    public int trait(int trait, int what) {
        if (!now.isTrait(trait) || what < 0 || what > 1) {
            return refuse(WRONG_NUMBER);
        }
        return answer(what == 0 ? now.weight[trait] : now.papersWith(trait));
    }

    public int traits(int paper) {
        if (!now.isPaper(paper)) {
            return refuse(WRONG_NUMBER);
        }
        return answer(now.traitsOf[paper]);
    }

    public int cellOf(int paper) {
        if (!now.isPaper(paper)) {
            return refuse(WRONG_NUMBER);
        }
        return answerOrNone(now.place[paper]);
    }

    public int paperIn(int cell) {
        if (!now.isCell(cell)) {
            return refuse(WRONG_NUMBER);
        }
        return answerOrNone(now.inCell[cell]);
    }

    public int clerk(int clerk) {
        if (!now.isClerk(clerk)) {
            return refuse(WRONG_NUMBER);
        }
        return answer(now.clerkAt[clerk]);
    }

    // ---- what is done

    public int file(int paper) {
        if (!now.isPaper(paper)) {
            return refuse(WRONG_NUMBER);
        }
        int cell = now.cellToFile(paper);
        if (cell == NONE) {
            return refuse(NONE_SUCH);
        }
        if (now.lies(paper)) {
            return refuse(CANNOT_BE);
        }
        now.putInto(paper, cell);
        return answer(cell);
    }

    public boolean lay(int paper, int cell) {
        if (!now.isPaper(paper) || !now.isCell(cell)) {
            return deny(WRONG_NUMBER);
        }
        if (now.lies(paper) || now.inCell[cell] != NONE) {
            return deny(CANNOT_BE);
        }
        now.putInto(paper, cell);
        return grant();
    }

    public int take(int paper) {
        if (!now.isPaper(paper)) {
            return refuse(WRONG_NUMBER);
        }
        if (!now.lies(paper)) {
            return refuse(CANNOT_BE);
        }
        return answer(now.takeAway(paper));
    }

    public int swap(int cell, int other) {
        if (!now.isCell(cell) || !now.isCell(other)) {
            return refuse(WRONG_NUMBER);
        }
        if (!now.exchange(cell, other)) {
            return refuse(CANNOT_BE);
        }
        return answer(now.wholeLikeness());
    }

    public int sort() {
        return answer(now.layByNumber());
    }

    public boolean stain(int paper, int trait, boolean is) {
        if (!now.isPaper(paper) || !now.isTrait(trait)) {
            return deny(WRONG_NUMBER);
        }
        int bit = 1 << trait;
        boolean has = (now.traitsOf[paper] & bit) != 0;
        if (has == is) {
            return deny(CANNOT_BE);
        }
        now.traitsOf[paper] ^= bit;
        now.compareAll();
        return grant();
    }

    public boolean weigh(int trait, int weight) {
        if (!now.isTrait(trait) || weight < 1 || weight > MOST_WEIGHT) {
            return deny(WRONG_NUMBER);
        }
        now.weight[trait] = weight;
        now.compareAll();
        return grant();
    }

    public boolean walk(int clerk, int cell) {
        if (!now.isClerk(clerk) || !now.isCell(cell)) {
            return deny(WRONG_NUMBER);
        }
        if (now.clerkAt[clerk] == cell) {
            return deny(CANNOT_BE);
        }
        now.clerkAt[clerk] = cell;
        return grant();
    }

    public int ask(int clerk, int traits) {
        if (!now.isClerk(clerk) || !now.isTraitSet(traits)) {
            return refuse(WRONG_NUMBER);
        }
        return answerOrNone(now.askClerk(clerk, traits));
    }

    public int scrawl(int traits) {
        if (!now.isTraitSet(traits)) {
            return refuse(WRONG_NUMBER);
        }
        if (now.paperCount >= MOST_PAPERS) {
            return refuse(TOO_MANY);
        }
        int paper = now.addPaper(Text.NO_NAME);
        if (now.isPaper(paper)) {
            now.traitsOf[paper] = traits;
        }
        now.compareAll();
        return answer(paper);
    }

    public boolean rule(int what, int much) {
        if (what == 5 && much >= 1 && much <= MOST_NEAR) {
            now.near = much;
            return grant();
        }
        if (what == 6 && much >= 0 && much <= MOST_ODDS) {
            now.odds = much;
            return grant();
        }
        return deny(WRONG_NUMBER);
    }

    // ---- likeness

    public int likeness(int paper, int other) {
        if (!now.isPaper(paper) || !now.isPaper(other) || paper == other) {
            return refuse(WRONG_NUMBER);
        }
        return answer(now.likeOf(paper, other));
    }

    public int smell(int cell, int traits) {
        if (!now.isCell(cell) || !now.isTraitSet(traits)) {
            return refuse(WRONG_NUMBER);
        }
        return answer(now.smellOf(cell, traits));
    }

    public int beside(int paper) {
        if (!now.isPaper(paper)) {
            return refuse(WRONG_NUMBER);
        }
        if (!now.lies(paper)) {
            return refuse(CANNOT_BE);
        }
        return answer(now.papersBeside(paper));
    }

    public int kinship(int paper) {
        if (!now.isPaper(paper)) {
            return refuse(WRONG_NUMBER);
        }
        if (!now.lies(paper)) {
            return refuse(CANNOT_BE);
        }
        return answer(now.kinAround(now.inCell, now.place[paper], NONE, paper));
    }

    public int likest(int paper) {
        if (!now.isPaper(paper)) {
            return refuse(WRONG_NUMBER);
        }
        int found = NONE;
        for (int other = 0; other < now.paperCount; other++) {
            if (other != paper && (found == NONE || now.likeOf(paper, other) > now.likeOf(paper, found))) {
                found = other;
            }
        }
        return answerOrNone(found);
    }

    public int oddest() {
        int found = NONE;
        for (int paper = 0; paper < now.paperCount; paper++) {
            if (found == NONE || now.likeToOthers(paper) < now.likeToOthers(found)) {
                found = paper;
            }
        }
        return answerOrNone(found);
    }

    public int filedIn(int paper) {
        if (!now.isPaper(paper)) {
            return refuse(WRONG_NUMBER);
        }
        return answerOrNone(now.cellToFile(paper));
    }

    // ---- searching

    public int find(int clerk, int traits) {
        if (!now.isClerk(clerk) || !now.isTraitSet(traits)) {
            return refuse(WRONG_NUMBER);
        }
        return answerOrNone(now.searchFound(clerk, traits));
    }

    public int paces(int clerk, int traits) {
        if (!now.isClerk(clerk) || !now.isTraitSet(traits)) {
            return refuse(WRONG_NUMBER);
        }
        return answer(now.searchPaces(clerk, traits));
    }

    public boolean skill(int clerk) {
        if (!now.isClerk(clerk)) {
            return deny(WRONG_NUMBER);
        }
        int lying = Integer.bitCount(now.lyingSet());
        if (lying == 0) {
            return deny(NONE_SUCH);
        }
        int known = 0;
        for (int paper = 0; paper < now.paperCount; paper++) {
            if (now.lies(paper) && now.searchFound(clerk, now.traitsOf[paper]) == paper) {
                known++;
            }
        }
        return tellFraction(known, lying);
    }

    public boolean toil(int clerk) {
        if (!now.isClerk(clerk)) {
            return deny(WRONG_NUMBER);
        }
        int lying = Integer.bitCount(now.lyingSet());
        if (lying == 0) {
            return deny(NONE_SUCH);
        }
        int gone = 0;
        for (int paper = 0; paper < now.paperCount; paper++) {
            if (now.lies(paper)) {
                gone += now.searchPaces(clerk, now.traitsOf[paper]);
            }
        }
        return tellFraction(gone, lying);
    }

    public int looking(int traits, int k) {
        if (!now.isTraitSet(traits) || k < 0) {
            return refuse(WRONG_NUMBER);
        }
        int left = now.lyingSet();
        if (k >= Integer.bitCount(left)) {
            return refuse(NONE_SUCH);
        }
        int paper = now.strongestOf(left, traits);
        for (int turn = 0; turn < k && turn < MOST_PAPERS && paper != NONE; turn++) {
            left &= ~(1 << paper);
            paper = now.strongestOf(left, traits);
        }
        return answerOrNone(paper);
    }

    public boolean guess(int traits, int paper) {
        if (!now.isTraitSet(traits) || !now.isPaper(paper)) {
            return deny(WRONG_NUMBER);
        }
        if (!now.lies(paper)) {
            return deny(CANNOT_BE);
        }
        int greatest = now.smellOfPaper(now.strongestOf(now.lyingSet(), traits), traits);
        if (now.smellOfPaper(paper, traits) < greatest) {
            return tellFraction(0, 1);
        }
        int alike = 0;
        for (int other = 0; other < now.paperCount; other++) {
            if (now.lies(other) && now.smellOfPaper(other, traits) == greatest) {
                alike++;
            }
        }
        return tellFraction(1, alike);
    }

    // ---- chains

    public int chain(int paper, int other) {
        if (!now.isPaper(paper) || !now.isPaper(other)) {
            return refuse(WRONG_NUMBER);
        }
        int links = now.linksBetween(paper, other);
        return links == NONE ? refuse(NONE_SUCH) : answer(links + 1);
    }

    public int chainAt(int paper, int other, int k) {
        if (!now.isPaper(paper) || !now.isPaper(other) || k < 0) {
            return refuse(WRONG_NUMBER);
        }
        int links = now.linksBetween(paper, other);
        if (links == NONE || k > links) {
            return refuse(NONE_SUCH);
        }
        int here = paper;
        for (int gone = 0; gone < k && gone < MOST_PAPERS; gone++) {
            here = now.nextInChain(here, other, links - gone - 1);
        }
        return answerOrNone(here);
    }

    public int group(int paper) {
        if (!now.isPaper(paper)) {
            return refuse(WRONG_NUMBER);
        }
        return answer(now.groupOf(paper));
    }

    public int groups() {
        int seen = 0;
        int many = 0;
        for (int paper = 0; paper < now.paperCount; paper++) {
            if ((seen >> paper & 1) == 0) {
                many++;
                seen |= now.groupOf(paper);
            }
        }
        return answer(many);
    }

    // ---- how it lies

    public int best() {
        bestLay.seek(now);
        return answer(bestLay.total);
    }

    public int bestIn(int cell) {
        if (!now.isCell(cell)) {
            return refuse(WRONG_NUMBER);
        }
        if (now.inCell[cell] == NONE) {
            return refuse(NONE_SUCH);
        }
        bestLay.seek(now);
        return answerOrNone(bestLay.paperFor(cell));
    }

    public int gain() {
        int couple = now.bestExchange();
        if (couple == NONE) {
            return refuse(NONE_SUCH);
        }
        return answer(now.gainOfExchange(now.inCell, couple / MOST_CELLS, couple % MOST_CELLS));
    }

    public int gainAt(int what) {
        if (what < 0 || what > 1) {
            return refuse(WRONG_NUMBER);
        }
        int couple = now.bestExchange();
        if (couple == NONE) {
            return refuse(NONE_SUCH);
        }
        return answer(what == 0 ? couple / MOST_CELLS : couple % MOST_CELLS);
    }

    public int disorder() {
        int wrong = 0;
        for (int paper = 0; paper < now.paperCount; paper++) {
            for (int greater = paper + 1; greater < now.paperCount; greater++) {
                if (now.lies(paper) && now.lies(greater) && now.place[greater] < now.place[paper]) {
                    wrong++;
                }
            }
        }
        return answer(wrong);
    }

    public int swaps() {
        return answer(now.fewestExchanges());
    }

    public int hide(int papers) {
        if (!now.isPaperSet(papers)) {
            return refuse(WRONG_NUMBER);
        }
        return answer(Integer.bitCount(now.fewestToHide(papers)));
    }

    public int hideSet(int papers) {
        if (!now.isPaperSet(papers)) {
            return refuse(WRONG_NUMBER);
        }
        return answer(now.fewestToHide(papers));
    }

    // ---- what was seen

    public int weighed(int tray, int n) {
        int why = whyNoThrees(tray, n);
        if (why != FINE) {
            return refuse(why);
        }
        weighing.seek(now, trays[tray], n);
        return answer(weighing.fitting);
    }

    public int sure(int trait, int tray, int n) {
        if (!now.isTrait(trait)) {
            return refuse(WRONG_NUMBER);
        }
        int why = whyNoThrees(tray, n);
        if (why != FINE) {
            return refuse(why);
        }
        weighing.seek(now, trays[tray], n);
        return answerOrNone(weighing.onlyWeight(trait));
    }

    // ---- games, odds

    public int game(int turns) {
        if (turns < 0 || turns > MOST_TURNS) {
            return refuse(WRONG_NUMBER);
        }
        play.seek(now, turns);
        return answer(play.value);
    }

    public int moveOf(int turns) {
        if (turns < 1 || turns > MOST_TURNS) {
            return refuse(WRONG_NUMBER);
        }
        play.seek(now, turns);
        if (play.lesser == NONE) {
            return refuse(NONE_SUCH);
        }
        return answer(100 * play.lesser + play.greater);
    }

    public boolean smelt(int paper, int k) {
        if (!now.isPaper(paper) || k < 0 || k > MOST_TRAITS) {
            return deny(WRONG_NUMBER);
        }
        int many = Integer.bitCount(now.traitsOf[paper]);
        long ways = 0;
        long all = 1;
        for (int count = 0; count < many; count++) {
            all *= MOST_ODDS;
        }
        for (int count = k; count <= many; count++) {
            ways += waysToSmell(many, count, now.odds);
        }
        return tellFraction(ways, all);
    }

    public int copyFloor(int tray) {
        if (!isTray(tray)) {
            return refuse(WRONG_NUMBER);
        }
        if (!trays[tray].there) {
            return refuse(MISSING_TRAY);
        }
        int cells = now.cells;
        if (!trays[tray].reaches(0, cells)) {
            return refuse(NO_PLACE);
        }
        for (int cell = 0; cell < cells; cell++) {
            trays[tray].put(cell, now.paperAt(now.inCell, cell));
        }
        return answer(cells);
    }

    // ---- DAYS

    public int live(int seed) {
        if (seed < 0 || seed > MOST_SEED) {
            return refuse(WRONG_NUMBER);
        }
        if (!daysNow.there) {
            return refuse(NONE_SUCH);
        }
        life.begin(now, daysNow, seed);
        return answer(life.steps);
    }

    public int lived(int what) {
        if (what < 0 || what > 4) {
            return refuse(WRONG_NUMBER);
        }
        if (!life.there) {
            return refuse(NONE_SUCH);
        }
        switch (what) {
            case 0: return answer(life.missed);
            case 1: return answer(life.filed);
            case 2: return answer(life.taken);
            case 3: return answer(life.found);
            default: return answer(life.cutOff ? 1 : 0);
        }
    }

    public boolean mean(int seed, int many) {
        if (seed < 0 || seed > MOST_SEED || many < 1 || many > MOST_SEEDS || seed + many - 1 > MOST_SEED) {
            return deny(WRONG_NUMBER);
        }
        if (!daysNow.there) {
            return deny(NONE_SUCH);
        }
        long sum = 0;
        for (int k = 0; k < many; k++) {
            draft.copyFrom(now);
            trial.begin(draft, daysNow, seed + k);
            sum += draft.wholeLikeness();
        }
        return tellFraction(sum, many);
    }

    // ---- MARKS

    public int mark() {
        if (marked < 0 || marked >= MOST_MARKS) {
            return refuse(TOO_MANY);
        }
        markedOffices[marked].copyFrom(now);
        markedDays[marked].copyFrom(daysNow);
        marked++;
        return answer(marked);
    }

    public int undo() {
        if (marked < 1 || marked > MOST_MARKS) {
            return refuse(NONE_SUCH);
        }
        marked--;
        now.copyFrom(markedOffices[marked]);
        daysNow.copyFrom(markedDays[marked]);
        return answer(marked);
    }

    // ---- what the calls share

    private int answer(int v) {
        statusNow = FINE;
        return v;
    }

    private int refuse(int why) {
        statusNow = why;
        return NONE;
    }

    private int answerOrNone(int v) {
        return v == NONE ? refuse(NONE_SUCH) : answer(v);
    }

    private boolean grant() {
        statusNow = FINE;
        return true;
    }

    private boolean deny(int why) {
        statusNow = why;
        return false;
    }

    private boolean tellFraction(long upper, long lower) {
        long divisor = commonDivisor(upper, lower);
        if (lower < 1 || divisor < 1) {
            topNow = 0;
            bottomNow = 1;
        } else {
            topNow = upper / divisor;
            bottomNow = lower / divisor;
        }
        return grant();
    }

    private static long commonDivisor(long a, long b) {
        long greater = a;
        long lesser = b;
        // Euclid's way over longs needs fewer than a hundred turns.
        for (int turn = 0; turn < 100 && lesser != 0; turn++) {
            long rest = greater % lesser;
            greater = lesser;
            lesser = rest;
        }
        return greater;
    }

    private static long waysToSmell(int many, int count, int odds) {
        long ways = 1;
        // Counting up keeps each quotient whole: it is a binomial number every time.
        for (int k = 1; k <= count; k++) {
            ways = ways * (many - count + k) / k;
        }
        for (int k = 0; k < many; k++) {
            ways *= k < count ? odds : MOST_ODDS - odds;
        }
        return ways;
    }

    private static boolean isTray(int tray) {
        return tray >= 0 && tray < MOST_TRAYS;
    }

    private int whyNoPlace(int tray, int place) {
        if (!isTray(tray)) {
            return WRONG_NUMBER;
        }
        if (!trays[tray].there) {
            return MISSING_TRAY;
        }
        return place < 0 || place >= trays[tray].many ? NO_PLACE : FINE;
    }

    private int whyNoThrees(int tray, int n) {
        if (!isTray(tray) || n < 0 || n > MOST_THREES) {
            return WRONG_NUMBER;
        }
        if (!trays[tray].there) {
            return MISSING_TRAY;
        }
        if (!trays[tray].reaches(0, 3 * n)) {
            return NO_PLACE;
        }
        for (int k = 0; k < 3 * n; k++) {
            long paper = trays[tray].numberAt(k);
            if (paper < 0 || paper >= now.paperCount) {
                return WRONG_IN_TRAY;
            }
        }
        return FINE;
    }

    private boolean keepFault() {
        faultKind = text.fault;
        faultPlace = text.fault == 0 ? NONE : text.faultAt;
        return text.fault == 0;
    }

    private static final class Tray {
        boolean there;
        int sort;
        int many;
        final long[] numbers = new long[MOST_NUMBERS];

        void makeZeros(int newSort, int newMany) {
            there = true;
            sort = newSort;
            many = newMany;
            Arrays.fill(numbers, 0L);
        }

        boolean reaches(int from, int length) {
            return from >= 0 && length >= 0 && (long) from + length <= Math.min(many, MOST_NUMBERS);
        }

        long numberAt(int at) {
            return at >= 0 && at < many && at < MOST_NUMBERS ? numbers[at] : 0;
        }

        void put(int at, long v) {
            if (at >= 0 && at < many && at < MOST_NUMBERS) {
                numbers[at] = cut(v);
            }
        }

        private long cut(long v) {
            switch (sort) {
                case 0: return (byte) v;
                case 1: return (short) v;
                case 2: return (int) v;
                default: return v;
            }
        }
    }

    // The REGISTRY with all that became of it.
    private static final class Office {
        int wide;
        int high;
        int cells;
        int near;
        int odds;
        int traitCount;
        int paperCount;
        int clerkCount;
        final int[] weight = new int[MOST_TRAITS];
        final long[] traitName = new long[MOST_TRAITS];
        final int[] traitsOf = new int[MOST_PAPERS];
        final int[] place = new int[MOST_PAPERS];
        final long[] paperName = new long[MOST_PAPERS];
        final int[] clerkAt = new int[MOST_CLERKS];
        final long[] clerkName = new long[MOST_CLERKS];
        final int[] inCell = new int[MOST_CELLS];
        // Kept ready since every search asks them over and over: the cells at the sides, likeness by couples.
        final int[] atSide = new int[MOST_CELLS * SIDES];
        final int[] alike = new int[MOST_PAPERS * MOST_PAPERS];
        // Filled anew for each search.
        private final int[] smells = new int[MOST_CELLS];

        Office() {
            clear();
        }

        void clear() {
            near = 3;
            odds = 8;
            traitCount = 0;
            paperCount = 0;
            clerkCount = 0;
            Arrays.fill(inCell, NONE);
            Arrays.fill(place, NONE);
            Arrays.fill(alike, 0);
            layFloor(3, 2);
        }

        void copyFrom(Office o) {
            wide = o.wide;
            high = o.high;
            cells = o.cells;
            near = o.near;
            odds = o.odds;
            traitCount = o.traitCount;
            paperCount = o.paperCount;
            clerkCount = o.clerkCount;
            System.arraycopy(o.weight, 0, weight, 0, MOST_TRAITS);
            System.arraycopy(o.traitName, 0, traitName, 0, MOST_TRAITS);
            System.arraycopy(o.traitsOf, 0, traitsOf, 0, MOST_PAPERS);
            System.arraycopy(o.place, 0, place, 0, MOST_PAPERS);
            System.arraycopy(o.paperName, 0, paperName, 0, MOST_PAPERS);
            System.arraycopy(o.clerkAt, 0, clerkAt, 0, MOST_CLERKS);
            System.arraycopy(o.clerkName, 0, clerkName, 0, MOST_CLERKS);
            System.arraycopy(o.inCell, 0, inCell, 0, MOST_CELLS);
            System.arraycopy(o.atSide, 0, atSide, 0, MOST_CELLS * SIDES);
            System.arraycopy(o.alike, 0, alike, 0, MOST_PAPERS * MOST_PAPERS);
        }

        void layFloor(int newWide, int newHigh) {
            wide = Math.max(1, Math.min(newWide, MOST_WIDE));
            high = Math.max(1, Math.min(newHigh, MOST_HIGH));
            cells = wide * high;
            Arrays.fill(atSide, NONE);
            for (int row = 0; row < high; row++) {
                for (int column = 0; column < wide; column++) {
                    int cell = row * wide + column;
                    // By growing numbers, so that the first of several is met first.
                    atSide[cell * SIDES] = row > 0 ? cell - wide : NONE;
                    atSide[cell * SIDES + 1] = column > 0 ? cell - 1 : NONE;
                    atSide[cell * SIDES + 2] = column + 1 < wide ? cell + 1 : NONE;
                    atSide[cell * SIDES + 3] = row + 1 < high ? cell + wide : NONE;
                }
            }
        }

        boolean isTrait(int trait) {
            return trait >= 0 && trait < traitCount && trait < MOST_TRAITS;
        }

        boolean isPaper(int paper) {
            return paper >= 0 && paper < paperCount && paper < MOST_PAPERS;
        }

        boolean isClerk(int clerk) {
            return clerk >= 0 && clerk < clerkCount && clerk < MOST_CLERKS;
        }

        boolean isCell(int cell) {
            return cell >= 0 && cell < cells && cell < MOST_CELLS;
        }

        boolean isTraitSet(int set) {
            return set >= 0 && set < 1 << traitCount;
        }

        boolean isPaperSet(int set) {
            return set >= 0 && set < 1 << paperCount;
        }

        boolean lies(int paper) {
            return paper >= 0 && paper < paperCount && paper < MOST_PAPERS && place[paper] != NONE;
        }

        int addTrait(long name) {
            if (traitCount >= MOST_TRAITS) {
                return NONE;
            }
            traitName[traitCount] = name;
            weight[traitCount] = 1;
            traitCount++;
            return traitCount - 1;
        }

        int addPaper(long name) {
            if (paperCount >= MOST_PAPERS) {
                return NONE;
            }
            paperName[paperCount] = name;
            traitsOf[paperCount] = 0;
            place[paperCount] = NONE;
            paperCount++;
            return paperCount - 1;
        }

        int addClerk(long name) {
            if (clerkCount >= MOST_CLERKS) {
                return NONE;
            }
            clerkName[clerkCount] = name;
            clerkAt[clerkCount] = 0;
            clerkCount++;
            return clerkCount - 1;
        }

        int traitNamed(long name) {
            return whereIs(name, traitName, traitCount);
        }

        int paperNamed(long name) {
            return whereIs(name, paperName, paperCount);
        }

        int clerkNamed(long name) {
            return whereIs(name, clerkName, clerkCount);
        }

        boolean isTaken(long name) {
            return traitNamed(name) != NONE || paperNamed(name) != NONE || clerkNamed(name) != NONE;
        }

        private static int whereIs(long name, long[] names, int many) {
            for (int k = 0; k < many && k < names.length; k++) {
                if (names[k] == name) {
                    return k;
                }
            }
            return NONE;
        }

        int lyingSet() {
            int set = 0;
            for (int paper = 0; paper < paperCount; paper++) {
                if (lies(paper)) {
                    set |= 1 << paper;
                }
            }
            return set;
        }

        int emptyCells() {
            int set = 0;
            for (int cell = 0; cell < cells && cell < MOST_CELLS; cell++) {
                if (inCell[cell] == NONE) {
                    set |= 1 << cell;
                }
            }
            return set;
        }

        int papersWith(int trait) {
            int set = 0;
            for (int paper = 0; paper < paperCount && paper < MOST_PAPERS; paper++) {
                set |= (traitsOf[paper] >> trait & 1) << paper;
            }
            return set;
        }

        void putInto(int paper, int cell) {
            if (isPaper(paper) && isCell(cell)) {
                place[paper] = cell;
                inCell[cell] = paper;
            }
        }

        int takeAway(int paper) {
            if (!lies(paper)) {
                return NONE;
            }
            int cell = place[paper];
            if (isCell(cell)) {
                inCell[cell] = NONE;
            }
            place[paper] = NONE;
            return cell;
        }

        private boolean canExchange(int cell, int other) {
            return isCell(cell) && isCell(other) && cell != other
                && (inCell[cell] != NONE || inCell[other] != NONE);
        }

        boolean exchange(int cell, int other) {
            if (!canExchange(cell, other)) {
                return false;
            }
            int paper = inCell[cell];
            int second = inCell[other];
            inCell[cell] = second;
            inCell[other] = paper;
            if (isPaper(paper)) {
                place[paper] = other;
            }
            if (isPaper(second)) {
                place[second] = cell;
            }
            return true;
        }

        int layByNumber() {
            int left = lyingSet();
            int moved = 0;
            for (int cell = 0; cell < cells && cell < MOST_CELLS; cell++) {
                if (inCell[cell] != NONE && left != 0) {
                    int paper = Integer.numberOfTrailingZeros(left);
                    left &= left - 1;
                    if (isPaper(paper) && place[paper] != cell) {
                        moved++;
                    }
                    putInto(paper, cell);
                }
            }
            return moved;
        }

        // ---- LIKENESS, SMELL

        void compareAll() {
            for (int paper = 0; paper < paperCount && paper < MOST_PAPERS; paper++) {
                for (int other = 0; other <= paper; other++) {
                    int both = weightsOf(traitsOf[paper] & traitsOf[other]);
                    alike[paper * MOST_PAPERS + other] = both;
                    alike[other * MOST_PAPERS + paper] = both;
                }
            }
        }

        private int weightsOf(int set) {
            int sum = 0;
            for (int trait = 0; trait < traitCount && trait < MOST_TRAITS; trait++) {
                if ((set >> trait & 1) != 0) {
                    sum += weight[trait];
                }
            }
            return sum;
        }

        int likeOf(int paper, int other) {
            return isPaper(paper) && isPaper(other) ? alike[paper * MOST_PAPERS + other] : 0;
        }

        int likeToOthers(int paper) {
            int sum = 0;
            for (int other = 0; other < paperCount; other++) {
                if (other != paper) {
                    sum += likeOf(paper, other);
                }
            }
            return sum;
        }

        int sideOf(int cell, int side) {
            return isCell(cell) && side >= 0 && side < SIDES ? atSide[cell * SIDES + side] : NONE;
        }

        private int paperAt(int[] lay, int cell) {
            return cell >= 0 && cell < lay.length ? lay[cell] : NONE;
        }

        // Likeness of a paper to what would be beside it in a cell, but for what lies in one cell.
        int kinAround(int[] lay, int cell, int but, int paper) {
            if (cell < 0 || cell >= MOST_CELLS || paper < 0 || paper >= MOST_PAPERS) {
                return 0;
            }
            int sum = 0;
            for (int side = 0; side < SIDES; side++) {
                int next = atSide[cell * SIDES + side];
                int other = next < 0 || next >= lay.length || next == but ? NONE : lay[next];
                if (other >= 0 && other < MOST_PAPERS) {
                    sum += alike[paper * MOST_PAPERS + other];
                }
            }
            return sum;
        }

        int wholeLikeness() {
            int sum = 0;
            for (int cell = 0; cell < cells && cell < MOST_CELLS; cell++) {
                // Right and below alone, so that each couple counts once.
                sum += likeOf(inCell[cell], paperAt(inCell, sideOf(cell, 2)));
                sum += likeOf(inCell[cell], paperAt(inCell, sideOf(cell, 3)));
            }
            return sum;
        }

        int papersBeside(int paper) {
            int set = 0;
            for (int side = 0; side < SIDES && lies(paper); side++) {
                int other = paperAt(inCell, sideOf(place[paper], side));
                if (isPaper(other)) {
                    set |= 1 << other;
                }
            }
            return set;
        }

        int cellToFile(int paper) {
            int found = NONE;
            int greatest = NONE;
            int own = isPaper(paper) ? place[paper] : NONE;
            for (int cell = 0; cell < cells && cell < MOST_CELLS; cell++) {
                if (inCell[cell] == NONE) {
                    int kin = kinAround(inCell, cell, own, paper);
                    if (kin > greatest) {
                        greatest = kin;
                        found = cell;
                    }
                }
            }
            return found;
        }

        int smellOfPaper(int paper, int set) {
            return isPaper(paper) ? weightsOf(traitsOf[paper] & set) : 0;
        }

        int smellOf(int cell, int set) {
            return isCell(cell) ? smellOfPaper(inCell[cell], set) : 0;
        }

        int strongestOf(int papers, int set) {
            int found = NONE;
            for (int paper = 0; paper < paperCount; paper++) {
                boolean told = (papers >> paper & 1) != 0;
                if (told && (found == NONE || smellOfPaper(paper, set) > smellOfPaper(found, set))) {
                    found = paper;
                }
            }
            return found;
        }

        // ---- SEARCH

        private void spreadSmells(int set) {
            for (int cell = 0; cell < cells && cell < MOST_CELLS; cell++) {
                int paper = inCell[cell];
                smells[cell] = paper >= 0 && paper < MOST_PAPERS ? weightsOf(traitsOf[paper] & set) : 0;
            }
        }

        private int nextBySmell(int cell) {
            if (!isCell(cell)) {
                return NONE;
            }
            int found = NONE;
            int greatest = smells[cell];
            for (int side = 0; side < SIDES; side++) {
                int next = atSide[cell * SIDES + side];
                if (next >= 0 && next < MOST_CELLS && smells[next] > greatest) {
                    greatest = smells[next];
                    found = next;
                }
            }
            return found;
        }

        private int searchEnd(int clerk, int set) {
            spreadSmells(set);
            int cell = isClerk(clerk) ? clerkAt[clerk] : NONE;
            int next = nextBySmell(cell);
            // The smell grows with each cell, so no cell comes twice.
            for (int gone = 0; gone < MOST_CELLS && next != NONE; gone++) {
                cell = next;
                next = nextBySmell(cell);
            }
            return cell;
        }

        int searchPaces(int clerk, int set) {
            spreadSmells(set);
            int next = nextBySmell(isClerk(clerk) ? clerkAt[clerk] : NONE);
            int gone = 0;
            while (gone < MOST_CELLS && next != NONE) {
                gone++;
                next = nextBySmell(next);
            }
            return gone;
        }

        int searchFound(int clerk, int set) {
            return foundIn(searchEnd(clerk, set));
        }

        // By the smells that the latest search spread.
        private int foundIn(int cell) {
            return isCell(cell) && smells[cell] > 0 ? inCell[cell] : NONE;
        }

        int askClerk(int clerk, int set) {
            int cell = searchEnd(clerk, set);
            int paper = foundIn(cell);
            if (paper != NONE && isClerk(clerk)) {
                clerkAt[clerk] = cell;
            }
            return paper;
        }

        // ---- CHAINS

        private int papersNear(int paper) {
            int set = 0;
            for (int other = 0; other < paperCount; other++) {
                if (other != paper && likeOf(paper, other) >= near) {
                    set |= 1 << other;
                }
            }
            return set;
        }

        private int withThoseNear(int set) {
            int wider = set;
            for (int paper = 0; paper < paperCount; paper++) {
                if ((set >> paper & 1) != 0) {
                    wider |= papersNear(paper);
                }
            }
            return wider;
        }

        int groupOf(int paper) {
            int set = isPaper(paper) ? 1 << paper : 0;
            for (int links = 0; links < MOST_PAPERS; links++) {
                set = withThoseNear(set);
            }
            return set;
        }

        int linksBetween(int paper, int other) {
            int set = isPaper(other) ? 1 << other : 0;
            for (int links = 0; links < MOST_PAPERS; links++) {
                if (isPaper(paper) && (set >> paper & 1) != 0) {
                    return links;
                }
                set = withThoseNear(set);
            }
            return NONE;
        }

        int nextInChain(int paper, int other, int linksLeft) {
            int set = isPaper(paper) ? papersNear(paper) : 0;
            for (int next = 0; next < paperCount; next++) {
                if ((set >> next & 1) != 0 && linksBetween(next, other) == linksLeft) {
                    return next;
                }
            }
            return NONE;
        }

        // ---- how it lies

        int gainOfExchange(int[] lay, int cell, int other) {
            int paper = paperAt(lay, cell);
            int second = paperAt(lay, other);
            // What lies in the two cells stays as like to each other as it is.
            return kinAround(lay, cell, other, second) - kinAround(lay, cell, other, paper)
                + kinAround(lay, other, cell, paper) - kinAround(lay, other, cell, second);
        }

        // Both cells in one number, the lesser one in the upper place.
        int bestExchange() {
            int found = NONE;
            int greatest = 0;
            for (int cell = 0; cell < cells; cell++) {
                for (int other = cell + 1; other < cells; other++) {
                    int grows = canExchange(cell, other) ? gainOfExchange(inCell, cell, other) : 0;
                    if (grows > greatest) {
                        greatest = grows;
                        found = cell * MOST_CELLS + other;
                    }
                }
            }
            return found;
        }

        private int cellOfRank(int rank) {
            int left = rank;
            for (int cell = 0; cell < cells && cell < MOST_CELLS; cell++) {
                if (inCell[cell] != NONE) {
                    if (left == 0) {
                        return cell;
                    }
                    left--;
                }
            }
            return NONE;
        }

        int fewestExchanges() {
            int lying = lyingSet();
            int seen = 0;
            int rings = 0;
            // As many swaps as papers, less one for each ring of papers that want each other's cells.
            for (int first = 0; first < paperCount; first++) {
                if (lies(first) && (seen >> first & 1) == 0) {
                    rings++;
                    int paper = first;
                    for (int k = 0; k < MOST_PAPERS && isPaper(paper) && (seen >> paper & 1) == 0; k++) {
                        seen |= 1 << paper;
                        int rank = Integer.bitCount(lying & ((1 << paper) - 1));
                        paper = paperAt(inCell, cellOfRank(rank));
                    }
                }
            }
            return Integer.bitCount(lying) - rings;
        }

        private boolean noneBeside(int papers) {
            for (int paper = 0; paper < paperCount; paper++) {
                if ((papers >> paper & 1) != 0 && (papersBeside(paper) & papers) != 0) {
                    return false;
                }
            }
            return true;
        }

        int fewestToHide(int papers) {
            int found = papers;
            for (int set = 0; set < 1 << MOST_PAPERS; set++) {
                boolean within = (set & ~papers) == 0;
                if (within && Integer.bitCount(set) < Integer.bitCount(found) && noneBeside(papers & ~set)) {
                    found = set;
                }
            }
            return found;
        }
    }

    // Rows of steps; a when or a loop knows which step comes behind its end.
    private static final class Days {
        boolean there;
        int many;
        final int[] kind = new int[MOST_STEPS];
        final int[] first = new int[MOST_STEPS];
        final int[] second = new int[MOST_STEPS];
        final int[] behind = new int[MOST_STEPS];

        void clear() {
            there = false;
            many = 0;
        }

        void copyFrom(Days d) {
            there = d.there;
            many = d.many;
            System.arraycopy(d.kind, 0, kind, 0, MOST_STEPS);
            System.arraycopy(d.first, 0, first, 0, MOST_STEPS);
            System.arraycopy(d.second, 0, second, 0, MOST_STEPS);
            System.arraycopy(d.behind, 0, behind, 0, MOST_STEPS);
        }
    }

    // The tape, and the tokens of the text that is read off it.
    private static final class Text {
        static final long NO_NAME = 0;
        private static final long LETTERS = 27;

        final byte[] tape = new byte[MOST_TAPE];
        int taped;
        int kind;
        int start;
        int number;
        int sign;
        int word;
        long name;
        int fault;
        int faultAt;
        private int at;
        private int length;
        private final long[] words = new long[WORD_COUNT];

        Text() {
            int known = 0;
            long code = NO_NAME;
            for (int k = 0; k < WORDS.length(); k++) {
                char c = WORDS.charAt(k);
                if (c != ' ') {
                    code = code * LETTERS + letterCode(c);
                } else if (known < WORD_COUNT) {
                    words[known] = code;
                    known++;
                    code = NO_NAME;
                }
            }
        }

        void putFour(int four) {
            for (int shift = 24; shift >= 0; shift -= 8) {
                if (taped >= 0 && taped < MOST_TAPE) {
                    tape[taped] = (byte) (four >> shift);
                    taped++;
                }
            }
        }

        // The tape is empty from here on; its bytes stay until they are fed over.
        void open(int n) {
            length = Math.max(0, Math.min(n, Math.min(taped, MOST_TAPE)));
            taped = 0;
            at = 0;
            fault = 0;
            faultAt = NONE;
            advance();
        }

        void advance() {
            while (at < length && isBlank(tape[at])) {
                at++;
            }
            start = at;
            if (at >= length) {
                kind = TOKEN_END;
            } else if (isLetter(tape[at])) {
                passLetters();
            } else if (isDigit(tape[at])) {
                passDigits();
            } else {
                sign = tape[at];
                kind = isSign(sign) ? TOKEN_SIGN : TOKEN_BAD;
                at++;
            }
        }

        private void passLetters() {
            kind = TOKEN_WORD;
            name = NO_NAME;
            while (at < length && isLetter(tape[at])) {
                if (at - start < MOST_LETTERS) {
                    name = name * LETTERS + letterCode(tape[at]);
                }
                at++;
            }
            if (at - start > MOST_LETTERS) {
                name = NO_NAME;
            }
            word = NONE;
            for (int k = 0; k < WORD_COUNT; k++) {
                if (words[k] == name) {
                    word = k;
                }
            }
        }

        private void passDigits() {
            kind = TOKEN_NUMBER;
            number = 0;
            while (at < length && isDigit(tape[at])) {
                if (at - start < MOST_DIGITS) {
                    number = number * 10 + (tape[at] - '0');
                }
                at++;
            }
            if (at - start > MOST_DIGITS) {
                kind = TOKEN_BAD;
            }
        }

        private static boolean isBlank(int c) {
            return c == 10 || c == 32;
        }

        private static boolean isLetter(int c) {
            return c >= 'a' && c <= 'z';
        }

        private static boolean isDigit(int c) {
            return c >= '0' && c <= '9';
        }

        private static boolean isSign(int c) {
            return c == ';' || c == '<' || c == '>' || c == '=';
        }

        private static int letterCode(int c) {
            return c - 'a' + 1;
        }

        boolean fail(int why) {
            fault = why;
            faultAt = start;
            return false;
        }

        boolean cannotStand() {
            return fail(kind == TOKEN_BAD ? NO_TOKEN : CANNOT_STAND);
        }

        boolean atWord(int wanted) {
            return kind == TOKEN_WORD && word == wanted;
        }

        boolean atSign(int wanted) {
            return kind == TOKEN_SIGN && sign == wanted;
        }

        boolean passWord(int wanted) {
            if (!atWord(wanted)) {
                return cannotStand();
            }
            advance();
            return true;
        }

        boolean passEnd() {
            if (!atSign(';')) {
                return cannotStand();
            }
            advance();
            return true;
        }

        boolean needName() {
            boolean fits = kind == TOKEN_WORD && name != NO_NAME && word == NONE;
            return fits || cannotStand();
        }

        boolean needNumber(int least, int most) {
            if (kind != TOKEN_NUMBER) {
                return cannotStand();
            }
            return number >= least && number <= most || fail(WRONG_VALUE);
        }
    }

    private static final class RegistryReader {
        private final Text text;
        private final Office office;
        private boolean floorTold;
        private boolean nearTold;
        private boolean oddsTold;

        RegistryReader(Text text, Office office) {
            this.text = text;
            this.office = office;
        }

        void readAll() {
            office.clear();
            boolean well = true;
            // Each part takes one byte of the text at least.
            for (int part = 0; part <= MOST_TAPE && well && text.kind != TOKEN_END; part++) {
                well = readPart();
            }
            office.compareAll();
        }

        private boolean readPart() {
            if (text.kind != TOKEN_WORD) {
                return text.cannotStand();
            }
            switch (text.word) {
                case FLOOR: return readFloor() && text.passEnd();
                case NEAR: return readNear() && text.passEnd();
                case ODDS: return readOdds() && text.passEnd();
                case MARK: return readMark() && text.passEnd();
                case PAPER: return readPaper() && text.passEnd();
                case CLERK: return readClerk() && text.passEnd();
                case LIES: return readLies() && text.passEnd();
                default: return text.cannotStand();
            }
        }

        private boolean readFloor() {
            if (floorTold || office.clerkCount > 0 || office.lyingSet() != 0) {
                return text.fail(TOLD_ALREADY);
            }
            floorTold = true;
            text.advance();
            if (!text.needNumber(1, MOST_WIDE)) {
                return false;
            }
            int wide = text.number;
            text.advance();
            if (!text.passWord(BY) || !text.needNumber(1, MOST_HIGH)) {
                return false;
            }
            office.layFloor(wide, text.number);
            text.advance();
            return true;
        }

        private boolean readNear() {
            if (nearTold) {
                return text.fail(TOLD_ALREADY);
            }
            nearTold = true;
            text.advance();
            if (!text.needNumber(1, MOST_NEAR)) {
                return false;
            }
            office.near = text.number;
            text.advance();
            return true;
        }

        private boolean readOdds() {
            if (oddsTold) {
                return text.fail(TOLD_ALREADY);
            }
            oddsTold = true;
            text.advance();
            if (!text.needNumber(0, MOST_ODDS)) {
                return false;
            }
            office.odds = text.number;
            text.advance();
            return true;
        }

        private boolean needNewName() {
            if (!text.needName()) {
                return false;
            }
            return !office.isTaken(text.name) || text.fail(WRONG_NAME);
        }

        private boolean readMark() {
            if (office.traitCount >= MOST_TRAITS) {
                return text.fail(ONE_TOO_MANY);
            }
            text.advance();
            if (!needNewName()) {
                return false;
            }
            int trait = office.addTrait(text.name);
            text.advance();
            if (!text.passWord(WEIGHS) || !text.needNumber(1, MOST_WEIGHT)) {
                return false;
            }
            if (office.isTrait(trait)) {
                office.weight[trait] = text.number;
            }
            text.advance();
            return true;
        }

        private boolean readPaper() {
            if (office.paperCount >= MOST_PAPERS) {
                return text.fail(ONE_TOO_MANY);
            }
            text.advance();
            if (!needNewName()) {
                return false;
            }
            int paper = office.addPaper(text.name);
            text.advance();
            // A mark stands once at most, so one turn more than there are marks is enough.
            for (int k = 0; k <= MOST_TRAITS && !text.atSign(';'); k++) {
                if (!readMarkOf(paper)) {
                    return false;
                }
            }
            return true;
        }

        private boolean readMarkOf(int paper) {
            if (!text.needName()) {
                return false;
            }
            int trait = office.traitNamed(text.name);
            if (trait == NONE || !office.isPaper(paper)) {
                return text.fail(WRONG_NAME);
            }
            if ((office.traitsOf[paper] >> trait & 1) != 0) {
                return text.fail(TOLD_ALREADY);
            }
            office.traitsOf[paper] |= 1 << trait;
            text.advance();
            return true;
        }

        private boolean readClerk() {
            if (office.clerkCount >= MOST_CLERKS) {
                return text.fail(ONE_TOO_MANY);
            }
            text.advance();
            if (!needNewName()) {
                return false;
            }
            int clerk = office.addClerk(text.name);
            text.advance();
            if (!text.passWord(AT) || !text.needNumber(0, office.cells - 1)) {
                return false;
            }
            if (office.isClerk(clerk)) {
                office.clerkAt[clerk] = text.number;
            }
            text.advance();
            return true;
        }

        private boolean readLies() {
            text.advance();
            if (!text.needName()) {
                return false;
            }
            int paper = office.paperNamed(text.name);
            if (paper == NONE) {
                return text.fail(WRONG_NAME);
            }
            if (office.lies(paper)) {
                return text.fail(TOLD_ALREADY);
            }
            text.advance();
            if (!text.passWord(AT) || !text.needNumber(0, office.cells - 1)) {
                return false;
            }
            int cell = text.number;
            if (!office.isCell(cell) || office.inCell[cell] != NONE) {
                return text.fail(TOLD_ALREADY);
            }
            office.putInto(paper, cell);
            text.advance();
            return true;
        }
    }

    private static final class DaysReader {
        private final Text text;
        private final Office office;
        private final Days days;
        private int within;
        private final int[] open = new int[MOST_WITHIN];

        DaysReader(Text text, Office office, Days days) {
            this.text = text;
            this.office = office;
            this.days = days;
        }

        void readAll() {
            days.clear();
            days.there = true;
            boolean well = true;
            // Each turn takes one byte of the text at least.
            for (int k = 0; k <= MOST_TAPE && well && text.kind != TOKEN_END; k++) {
                well = text.atWord(END) ? readEnd() : readStep();
            }
            if (well && within > 0) {
                text.cannotStand();
            }
        }

        private boolean readEnd() {
            if (within < 1 || within > MOST_WITHIN) {
                return text.cannotStand();
            }
            text.advance();
            within--;
            int opened = open[within];
            if (opened >= 0 && opened < MOST_STEPS) {
                days.behind[opened] = days.many;
            }
            return text.passEnd();
        }

        private boolean isStepWord() {
            return text.kind == TOKEN_WORD && (text.word >= FILE && text.word <= WHEN
                || text.word == LOOP || text.word == STOP);
        }

        private boolean isTestWord() {
            return text.kind == TOKEN_WORD
                && (text.word == LIES || text.word == BESIDE || text.word == TOTAL);
        }

        private boolean readStep() {
            if (!isStepWord()) {
                return text.cannotStand();
            }
            if (days.many >= MOST_STEPS) {
                return text.fail(ONE_TOO_MANY);
            }
            int kind = text.word;
            if ((kind == WHEN || kind == LOOP) && !openStep()) {
                return false;
            }
            text.advance();
            if (kind == WHEN) {
                if (!isTestWord()) {
                    return text.cannotStand();
                }
                // A when is known by its test alone from here on.
                kind = text.word;
                text.advance();
            }
            return readPieces(kind, piecesOf(kind)) && text.passEnd();
        }

        private boolean openStep() {
            if (within < 0 || within >= MOST_WITHIN) {
                return text.fail(TOO_DEEP);
            }
            open[within] = days.many;
            within++;
            return true;
        }

        // A letter for each piece behind the word: p a paper, c a clerk, f a cell of the floor,
        // l how often a loop goes, s a sign that compares, n a number.
        private static String piecesOf(int kind) {
            switch (kind) {
                case FILE:
                case TAKE:
                case LIES: return "p";
                case BESIDE: return "pp";
                case ASK: return "cp";
                case SWAP: return "ff";
                case LOOP: return "l";
                case TOTAL: return "sn";
                default: return "";
            }
        }

        private boolean readPieces(int kind, String pieces) {
            int step = days.many;
            if (step < 0 || step >= MOST_STEPS) {
                return text.fail(ONE_TOO_MANY);
            }
            days.many++;
            days.kind[step] = kind;
            days.first[step] = NONE;
            days.second[step] = NONE;
            days.behind[step] = days.many;
            for (int k = 0; k < pieces.length(); k++) {
                int piece = pieceHere(pieces.charAt(k));
                if (piece == NONE) {
                    return false;
                }
                if (k == 0) {
                    days.first[step] = piece;
                } else {
                    days.second[step] = piece;
                }
                text.advance();
            }
            return true;
        }

        private int pieceHere(int piece) {
            switch (piece) {
                case 'p': return text.needName() ? toldOrFault(office.paperNamed(text.name)) : NONE;
                case 'c': return text.needName() ? toldOrFault(office.clerkNamed(text.name)) : NONE;
                case 'f': return text.needNumber(0, office.cells - 1) ? text.number : NONE;
                case 'l': return text.needNumber(1, MOST_LOOPS) ? text.number : NONE;
                case 's': return comparisonOrFault();
                default: return text.needNumber(0, MOST_NUMBER) ? text.number : NONE;
            }
        }

        private int toldOrFault(int thing) {
            if (thing == NONE) {
                text.fail(WRONG_NAME);
            }
            return thing;
        }

        private int comparisonOrFault() {
            if (text.kind == TOKEN_SIGN && text.sign != ';') {
                return text.sign;
            }
            text.cannotStand();
            return NONE;
        }
    }

    // One run of the DAYS, and what is told of it behind.
    private static final class Life {
        boolean there;
        int steps;
        int missed;
        int filed;
        int taken;
        int found;
        boolean cutOff;
        private boolean over;
        private int drawn;
        private Office office;
        private Days days;

        void begin(Office inOffice, Days byDays, int seed) {
            there = true;
            steps = 0;
            missed = 0;
            filed = 0;
            taken = 0;
            found = 0;
            cutOff = false;
            over = false;
            drawn = seed;
            office = inOffice;
            days = byDays;
            goThrough(0, days.many, 0);
        }

        private void goThrough(int from, int to, int depth) {
            if (depth > MOST_WITHIN) {
                return;
            }
            int step = from;
            for (int k = 0; k < MOST_STEPS && step >= 0 && step < to && step < MOST_STEPS && !over; k++) {
                if (steps >= MOST_STEPS_LIVED) {
                    cutOff = true;
                    over = true;
                } else {
                    steps++;
                    goInto(step, depth);
                    step = days.behind[step];
                }
            }
        }

        private void goInto(int step, int depth) {
            int first = days.first[step];
            int second = days.second[step];
            boolean well = true;
            switch (days.kind[step]) {
                case LOOP:
                    for (int k = 0; k < first && k < MOST_LOOPS && !over; k++) {
                        goThrough(step + 1, days.behind[step], depth + 1);
                    }
                    break;
                case LIES:
                case BESIDE:
                case TOTAL:
                    if (holds(days.kind[step], first, second)) {
                        goThrough(step + 1, days.behind[step], depth + 1);
                    }
                    break;
                case STOP:
                    over = true;
                    break;
                case SORT:
                    office.layByNumber();
                    break;
                case FILE:
                    well = fileAway(first);
                    break;
                case TAKE:
                    well = takeOut(first);
                    break;
                case SWAP:
                    well = office.exchange(first, second);
                    break;
                case ASK:
                    well = office.isPaper(second) && office.askClerk(first, office.traitsOf[second]) != NONE;
                    found += well ? 1 : 0;
                    break;
                case ANY:
                    well = takeOrFile();
                    break;
                default:
                    break;
            }
            if (!well) {
                missed++;
            }
        }

        private boolean holds(int test, int first, int second) {
            if (test == LIES) {
                return office.lies(first);
            }
            if (test == BESIDE) {
                return office.isPaper(second) && (office.papersBeside(first) >> second & 1) != 0;
            }
            int total = office.wholeLikeness();
            if (first == '<') {
                return total < second;
            }
            return first == '>' ? total > second : total == second;
        }

        private boolean fileAway(int paper) {
            int cell = office.cellToFile(paper);
            if (office.lies(paper) || cell == NONE) {
                return false;
            }
            office.putInto(paper, cell);
            filed++;
            return true;
        }

        private boolean takeOut(int paper) {
            if (office.takeAway(paper) == NONE) {
                return false;
            }
            taken++;
            return true;
        }

        private boolean takeOrFile() {
            if (office.paperCount < 1) {
                return false;
            }
            drawn = (drawn * 3163 + 11369) % 65536;
            int paper = drawn / 8 % office.paperCount;
            return office.lies(paper) ? takeOut(paper) : fileAway(paper);
        }
    }

    // BEST: every way is gone through by numbers, but for those that can't be better any more.
    private static final class BestLay {
        int total;
        private Office office;
        private int many;
        private int papers;
        private final int[] cells = new int[MOST_PAPERS];
        private final int[] above = new int[MOST_PAPERS];
        private final int[] aside = new int[MOST_PAPERS];
        private final int[] couplesFrom = new int[MOST_PAPERS + 1];
        private final int[] mostLike = new int[MOST_COUPLES + 1];
        private final int[] tried = new int[MOST_PAPERS];
        private final int[] kept = new int[MOST_PAPERS];
        // Of the latest search: it is the dearest of all, and best() and bestIn() ask for it again and again.
        private int wide;
        private final int[] lay = new int[MOST_CELLS];
        private final int[] alike = new int[MOST_PAPERS * MOST_PAPERS];

        void seek(Office inOffice) {
            if (isAsBefore(inOffice)) {
                return;
            }
            office = inOffice;
            wide = office.wide;
            System.arraycopy(office.inCell, 0, lay, 0, MOST_CELLS);
            System.arraycopy(office.alike, 0, alike, 0, MOST_PAPERS * MOST_PAPERS);
            papers = office.lyingSet();
            listCells();
            addUpLikest();
            // How it lies now is one of the ways, so less than that is never kept.
            total = office.wholeLikeness() - 1;
            layFrom(0, papers, 0);
        }

        private boolean isAsBefore(Office other) {
            boolean same = wide == other.wide;
            for (int cell = 0; cell < MOST_CELLS && same; cell++) {
                same = lay[cell] == other.inCell[cell];
            }
            for (int couple = 0; couple < MOST_PAPERS * MOST_PAPERS && same; couple++) {
                same = alike[couple] == other.alike[couple];
            }
            return same;
        }

        int paperFor(int cell) {
            for (int k = 0; k < many && k < MOST_PAPERS; k++) {
                if (cells[k] == cell) {
                    return kept[k];
                }
            }
            return NONE;
        }

        private void listCells() {
            many = 0;
            for (int cell = 0; cell < office.cells && cell < MOST_CELLS && many < MOST_PAPERS; cell++) {
                if (office.inCell[cell] != NONE) {
                    cells[many] = cell;
                    above[many] = rankOf(office.sideOf(cell, 0));
                    aside[many] = rankOf(office.sideOf(cell, 1));
                    many++;
                }
            }
            couplesFrom[many] = 0;
            for (int k = many - 1; k >= 0; k--) {
                couplesFrom[k] = couplesFrom[k + 1] + (above[k] == NONE ? 0 : 1) + (aside[k] == NONE ? 0 : 1);
            }
        }

        private int rankOf(int cell) {
            for (int k = 0; k < many && k < MOST_PAPERS && cell != NONE; k++) {
                if (cells[k] == cell) {
                    return k;
                }
            }
            return NONE;
        }

        // mostLike[k]: no k couples beside each other can be liker than that together.
        private void addUpLikest() {
            int listed = 0;
            for (int paper = 0; paper < MOST_PAPERS; paper++) {
                for (int other = 0; other < paper; other++) {
                    if ((papers >> paper & papers >> other & 1) != 0 && listed < MOST_COUPLES) {
                        listed++;
                        putInOrder(office.likeOf(paper, other), listed);
                    }
                }
            }
            mostLike[0] = 0;
            for (int k = 1; k <= MOST_COUPLES; k++) {
                mostLike[k] = mostLike[k - 1] + (k <= listed ? mostLike[k] : 0);
            }
        }

        private void putInOrder(int v, int last) {
            int at = Math.max(1, Math.min(last, MOST_COUPLES));
            while (at > 1 && mostLike[at - 1] < v) {
                mostLike[at] = mostLike[at - 1];
                at--;
            }
            mostLike[at] = v;
        }

        private int mostFrom(int k) {
            int couples = k >= 0 && k <= MOST_PAPERS ? couplesFrom[k] : 0;
            return mostLike[Math.max(0, Math.min(couples, MOST_COUPLES))];
        }

        // To what is tried in a cell ahead; 0 where there is none.
        private int likeToTried(int paper, int rank) {
            int other = rank >= 0 && rank < MOST_PAPERS ? tried[rank] : NONE;
            boolean both = paper >= 0 && paper < MOST_PAPERS && other >= 0 && other < MOST_PAPERS;
            return both ? alike[paper * MOST_PAPERS + other] : 0;
        }

        private void layFrom(int k, int left, int sum) {
            if (k < 0 || k >= many || k >= MOST_PAPERS) {
                total = sum;
                System.arraycopy(tried, 0, kept, 0, MOST_PAPERS);
                return;
            }
            int reachable = mostFrom(k + 1);
            for (int paper = 0; paper < MOST_PAPERS; paper++) {
                if ((left >> paper & 1) == 0) {
                    continue;
                }
                int grown = sum + likeToTried(paper, above[k]) + likeToTried(paper, aside[k]);
                if (grown + reachable > total) {
                    tried[k] = paper;
                    layFrom(k + 1, left & ~(1 << paper), grown);
                }
            }
        }
    }

    // GAME: each side's turns by best play; what can't change the choice is passed over.
    private static final class Game {
        private static final int BOUND = 1000000;

        int value;
        int lesser;
        int greater;
        private Office office;
        private final int[] lay = new int[MOST_CELLS];

        void seek(Office inOffice, int turns) {
            office = inOffice;
            System.arraycopy(office.inCell, 0, lay, 0, MOST_CELLS);
            lesser = NONE;
            greater = NONE;
            int total = office.wholeLikeness();
            value = worth(turns - 1, false, total, -BOUND, BOUND);
            if (turns < 1) {
                return;
            }
            // No swap comes last, so the first swap that is as good as none goes ahead of it.
            int least = value - 1;
            for (int k = 0; k < office.cells * 2; k++) {
                int cell = k / 2;
                int other = office.sideOf(cell, 2 + k % 2);
                if (canChange(cell, other)) {
                    int reached = afterChange(cell, other, turns - 1, total, least);
                    if (reached > least) {
                        least = reached;
                        lesser = cell;
                        greater = other;
                    }
                }
            }
            value = Math.max(value, least);
        }

        private int afterChange(int cell, int other, int turns, int total, int low) {
            int grown = total + office.gainOfExchange(lay, cell, other);
            change(cell, other);
            int reached = worth(turns, false, grown, low, BOUND);
            change(cell, other);
            return reached;
        }

        // Outside of low and high the answer only tells on which side the worth is.
        private int worth(int turns, boolean clerk, int total, int low, int high) {
            if (turns <= 0 || turns > MOST_TURNS) {
                return total;
            }
            int reached = worth(turns - 1, !clerk, total, low, high);
            int from = low;
            int to = high;
            for (int k = 0; k < office.cells * 2; k++) {
                from = clerk ? Math.max(from, reached) : from;
                to = clerk ? to : Math.min(to, reached);
                if (from >= to) {
                    return reached;
                }
                int cell = k / 2;
                int other = office.sideOf(cell, 2 + k % 2);
                if (canChange(cell, other)) {
                    int grown = total + office.gainOfExchange(lay, cell, other);
                    if (turns > 1) {
                        change(cell, other);
                        grown = worth(turns - 1, !clerk, grown, from, to);
                        change(cell, other);
                    }
                    reached = clerk ? Math.max(reached, grown) : Math.min(reached, grown);
                }
            }
            return reached;
        }

        private boolean canChange(int cell, int other) {
            return office.isCell(cell) && office.isCell(other) && (lay[cell] != NONE || lay[other] != NONE);
        }

        private void change(int cell, int other) {
            int paper = lay[cell];
            lay[cell] = lay[other];
            lay[other] = paper;
        }
    }

    // WEIGHED: all rows of weights, one behind the other, against the threes that could rule one out.
    private static final class Weighing {
        int fitting;
        private int traits;
        private int threes;
        private final int[] row = new int[MOST_TRAITS];
        private final int[] seen = new int[MOST_TRAITS];
        private final int[] sums = new int[MOST_THREES];
        private final int[] signs = new int[MOST_THREES * MOST_TRAITS];

        void seek(Office office, Tray tray, int n) {
            traits = Math.min(office.traitCount, MOST_TRAITS);
            threes = 0;
            for (int k = 0; k < n && k < MOST_THREES; k++) {
                addThree(office, (int) tray.numberAt(3 * k), (int) tray.numberAt(3 * k + 1),
                    (int) tray.numberAt(3 * k + 2));
            }
            goThroughRows();
        }

        private void addThree(Office office, int first, int second, int third) {
            if (!office.isPaper(first) || !office.isPaper(second) || !office.isPaper(third)) {
                return;
            }
            int with = office.traitsOf[first] & office.traitsOf[second];
            int against = office.traitsOf[first] & office.traitsOf[third];
            // One that every row fits is left out.
            if ((against & ~with) == 0 || threes >= MOST_THREES) {
                return;
            }
            sums[threes] = 0;
            for (int trait = 0; trait < traits; trait++) {
                int sign = (with >> trait & 1) - (against >> trait & 1);
                signs[threes * MOST_TRAITS + trait] = sign;
                sums[threes] += sign;
            }
            threes++;
        }

        private void goThroughRows() {
            fitting = 0;
            for (int trait = 0; trait < MOST_TRAITS; trait++) {
                row[trait] = 1;
                seen[trait] = 0;
            }
            boolean more = true;
            for (int k = 0; k < MOST_ROWS && more; k++) {
                if (fits()) {
                    fitting++;
                    for (int trait = 0; trait < traits; trait++) {
                        seen[trait] |= 1 << row[trait];
                    }
                }
                more = nextRow();
            }
        }

        private boolean fits() {
            for (int k = 0; k < threes; k++) {
                if (sums[k] < 0) {
                    return false;
                }
            }
            return true;
        }

        private boolean nextRow() {
            for (int trait = 0; trait < traits; trait++) {
                if (row[trait] < MOST_ROW_WEIGHT) {
                    changeWeight(trait, 1);
                    return true;
                }
                changeWeight(trait, 1 - MOST_ROW_WEIGHT);
            }
            return false;
        }

        private void changeWeight(int trait, int by) {
            row[trait] += by;
            for (int k = 0; k < threes; k++) {
                sums[k] += by * signs[k * MOST_TRAITS + trait];
            }
        }

        int onlyWeight(int trait) {
            boolean one = trait >= 0 && trait < traits && Integer.bitCount(seen[trait]) == 1;
            return one ? Integer.numberOfTrailingZeros(seen[trait]) : NONE;
        }
    }
}
