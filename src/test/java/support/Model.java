import java.util.ArrayList;
import java.util.Arrays;
import java.util.HashMap;
import java.util.List;
import java.util.Map;
import java.util.TreeMap;
import java.util.TreeSet;
import java.util.regex.Matcher;
import java.util.regex.Pattern;

/** The document once more, by brute force and with the whole Java library: what LikeRegistry is held against. */
final class Model {
    static final int NONE = -1;
    private static final List<String> RESERVED = Arrays.asList(("floor by near odds mark weighs paper clerk at lies file"
        + " take swap sort ask any when beside total loop end stop").split(" "));

    /** A STATUS other than 0, on its way out. */
    static final class Refusal extends RuntimeException {
        private static final long serialVersionUID = 1;
        final int status;

        Refusal(int status) {
            super(null, null, false, false);
            this.status = status;
        }
    }

    /** A FAULT, on its way out. */
    static final class Fault extends RuntimeException {
        private static final long serialVersionUID = 1;
        final int kind;
        final int place;

        Fault(int kind, int place) {
            super(null, null, false, false);
            this.kind = kind;
            this.place = place;
        }
    }

    static final class State {
        int wide = 3;
        int high = 2;
        int near = 3;
        int odds = 8;
        List<Integer> weights = new ArrayList<>();
        List<TreeSet<Integer>> papers = new ArrayList<>();
        TreeMap<Integer, Integer> lying = new TreeMap<>();
        List<Integer> clerks = new ArrayList<>();
        Map<String, String> names = new HashMap<>();
        List<Step> days = null;

        State copy() {
            State s = new State();
            s.wide = wide;
            s.high = high;
            s.near = near;
            s.odds = odds;
            s.weights.addAll(weights);
            for (TreeSet<Integer> p : papers) {
                s.papers.add(new TreeSet<>(p));
            }
            s.lying.putAll(lying);
            s.clerks.addAll(clerks);
            s.names.putAll(names);
            s.days = days;
            return s;
        }

        int cells() {
            return wide * high;
        }

        int inCell(int cell) {
            for (Map.Entry<Integer, Integer> e : lying.entrySet()) {
                if (e.getValue() == cell) {
                    return e.getKey();
                }
            }
            return NONE;
        }

        boolean besideCells(int a, int b) {
            return Math.abs(a / wide - b / wide) + Math.abs(a % wide - b % wide) == 1;
        }

        boolean beside(int p, int q) {
            return lying.containsKey(p) && lying.containsKey(q) && besideCells(lying.get(p), lying.get(q));
        }

        int like(TreeSet<Integer> a, TreeSet<Integer> b) {
            return a.stream().filter(b::contains).mapToInt(weights::get).sum();
        }

        int like(int p, int q) {
            return like(papers.get(p), papers.get(q));
        }

        int total() {
            int sum = 0;
            for (int p : lying.keySet()) {
                for (int q : lying.keySet()) {
                    if (p < q && beside(p, q)) {
                        sum += like(p, q);
                    }
                }
            }
            return sum;
        }

        int smell(int cell, TreeSet<Integer> set) {
            int p = inCell(cell);
            return p == NONE ? 0 : like(papers.get(p), set);
        }

        int fileCell(int p) {
            int found = NONE;
            int most = NONE;
            for (int c = 0; c < cells(); c++) {
                if (inCell(c) != NONE) {
                    continue;
                }
                int sum = 0;
                for (int q : lying.keySet()) {
                    if (q != p && besideCells(c, lying.get(q))) {
                        sum += like(p, q);
                    }
                }
                if (sum > most) {
                    most = sum;
                    found = c;
                }
            }
            return found;
        }

        List<Integer> search(int clerk, TreeSet<Integer> set) {
            List<Integer> way = new ArrayList<>();
            int at = clerks.get(clerk);
            way.add(at);
            while (true) {
                int next = NONE;
                for (int c = 0; c < cells(); c++) {
                    if (besideCells(at, c) && (next == NONE || smell(c, set) > smell(next, set))) {
                        next = c;
                    }
                }
                if (next == NONE || smell(next, set) <= smell(at, set)) {
                    return way;
                }
                at = next;
                way.add(at);
            }
        }

        int finds(int clerk, TreeSet<Integer> set) {
            List<Integer> way = search(clerk, set);
            int last = way.get(way.size() - 1);
            return smell(last, set) > 0 ? inCell(last) : NONE;
        }

        int ask(int clerk, TreeSet<Integer> set) {
            int p = finds(clerk, set);
            if (p != NONE) {
                clerks.set(clerk, lying.get(p));
            }
            return p;
        }

        void swap(int a, int b) {
            int p = inCell(a);
            int q = inCell(b);
            if (p != NONE) {
                lying.put(p, b);
            }
            if (q != NONE) {
                lying.put(q, a);
            }
        }

        void sort() {
            TreeSet<Integer> cells = new TreeSet<>(lying.values());
            for (int p : new ArrayList<>(lying.keySet())) {
                lying.put(p, cells.pollFirst());
            }
        }
    }

    static final class Step {
        String word;
        List<String> pieces = new ArrayList<>();
        List<Step> inside = new ArrayList<>();
    }

    State now = new State();
    List<State> marks = new ArrayList<>();
    long top = 0;
    long bottom = 1;
    int status = 0;
    int fault = NONE;
    int faultPlace = NONE;
    int[] lived = null;
    StringBuilder tape = new StringBuilder();
    long[][] trays = new long[4][];
    int[] sorts = new int[4];

    // ---- checks

    static void need(boolean holds, int status) {
        if (!holds) {
            throw new Refusal(status);
        }
    }

    void paper(int p) {
        need(p >= 0 && p < now.papers.size(), 1);
    }

    void trait(int t) {
        need(t >= 0 && t < now.weights.size(), 1);
    }

    void clerk(int c) {
        need(c >= 0 && c < now.clerks.size(), 1);
    }

    void cell(int c) {
        need(c >= 0 && c < now.cells(), 1);
    }

    static TreeSet<Integer> members(int set) {
        TreeSet<Integer> s = new TreeSet<>();
        for (int k = 0; k < 31; k++) {
            if ((set >> k & 1) != 0) {
                s.add(k);
            }
        }
        return s;
    }

    static int number(Iterable<Integer> members) {
        int set = 0;
        for (int k : members) {
            set |= 1 << k;
        }
        return set;
    }

    TreeSet<Integer> set(int set, int many) {
        need(set >= 0, 1);
        TreeSet<Integer> s = members(set);
        need(s.isEmpty() || s.last() < many, 1);
        return s;
    }

    TreeSet<Integer> traitSet(int set) {
        return set(set, now.weights.size());
    }

    long tell(long t, long b) {
        long g = java.math.BigInteger.valueOf(t).gcd(java.math.BigInteger.valueOf(b)).longValue();
        top = t / g;
        bottom = b / g;
        return 1;
    }

    // ---- texts

    static final class Token {
        final String text;
        final int place;
        final char kind;

        Token(String text, int place, char kind) {
            this.text = text;
            this.place = place;
            this.kind = kind;
        }
    }

    static final class Tokens {
        private static final Pattern ONE = Pattern.compile("[\\n ]*(?:([a-z]+)|([0-9]+)|([;<>=])|(\\z)|(.))", Pattern.DOTALL);
        private final List<Token> list = new ArrayList<>();
        private int next = 0;

        Tokens(String text) {
            Matcher m = ONE.matcher(text);
            int from = 0;
            while (from <= text.length() && m.find(from)) {
                int group = 1;
                while (m.group(group) == null) {
                    group++;
                }
                char kind = "wnse?".charAt(group - 1);
                if (kind == 'n' && m.group(group).length() > 4) {
                    kind = '?';
                }
                list.add(new Token(m.group(group), m.start(group), kind));
                if (kind == 'e') {
                    break;
                }
                from = m.end();
            }
        }

        Token peek() {
            return list.get(next);
        }

        Token take(String kinds) {
            Token t = peek();
            if (t.kind == '?') {
                throw new Fault(1, t.place);
            }
            if (kinds.indexOf(t.kind) < 0) {
                throw new Fault(2, t.place);
            }
            next++;
            return t;
        }

        Token word(List<String> words) {
            Token t = take("w");
            if (!words.contains(t.text)) {
                throw new Fault(2, t.place);
            }
            return t;
        }

        void sign(String sign) {
            Token t = take("s");
            if (!t.text.equals(sign)) {
                throw new Fault(2, t.place);
            }
        }

        Token name() {
            Token t = take("w");
            if (t.text.length() > 8 || RESERVED.contains(t.text)) {
                throw new Fault(2, t.place);
            }
            return t;
        }

        int number(int least, int most) {
            Token t = take("n");
            int v = Integer.parseInt(t.text);
            if (v < least || v > most) {
                throw new Fault(4, t.place);
            }
            return v;
        }

        int lastPlace() {
            return list.get(next - 1).place;
        }
    }

    static State readRegistry(String text) {
        Tokens in = new Tokens(text);
        State s = new State();
        TreeSet<String> once = new TreeSet<>();
        boolean fixed = false;
        while (in.peek().kind != 'e') {
            Token word = in.word(Arrays.asList("floor", "near", "odds", "mark", "paper", "clerk", "lies"));
            String w = word.text;
            if (w.equals("floor") || w.equals("near") || w.equals("odds")) {
                if (!once.add(w) || w.equals("floor") && fixed) {
                    throw new Fault(5, word.place);
                }
            }
            if (w.equals("mark") && s.weights.size() == 8 || w.equals("paper") && s.papers.size() == 8
                || w.equals("clerk") && s.clerks.size() == 4) {
                throw new Fault(6, word.place);
            }
            if (w.equals("floor")) {
                s.wide = in.number(1, 5);
                in.word(Arrays.asList("by"));
                s.high = in.number(1, 4);
            } else if (w.equals("near")) {
                s.near = in.number(1, 99);
            } else if (w.equals("odds")) {
                s.odds = in.number(0, 16);
            } else if (w.equals("lies")) {
                fixed = true;
                readLies(in, s);
            } else {
                fixed |= w.equals("clerk");
                readNamed(in, s, w);
            }
            in.sign(";");
        }
        return s;
    }

    private static void readLies(Tokens in, State s) {
        Token name = in.name();
        String thing = s.names.getOrDefault(name.text, "");
        if (!thing.startsWith("paper")) {
            throw new Fault(3, name.place);
        }
        int p = Integer.parseInt(thing.substring(5));
        if (s.lying.containsKey(p)) {
            throw new Fault(5, name.place);
        }
        in.word(Arrays.asList("at"));
        int c = in.number(0, s.cells() - 1);
        if (s.inCell(c) != NONE) {
            throw new Fault(5, in.lastPlace());
        }
        s.lying.put(p, c);
    }

    private static void readNamed(Tokens in, State s, String w) {
        Token name = in.name();
        if (s.names.containsKey(name.text)) {
            throw new Fault(3, name.place);
        }
        if (w.equals("mark")) {
            s.names.put(name.text, "mark" + s.weights.size());
            in.word(Arrays.asList("weighs"));
            s.weights.add(in.number(1, 9));
        } else if (w.equals("clerk")) {
            s.names.put(name.text, "clerk" + s.clerks.size());
            in.word(Arrays.asList("at"));
            s.clerks.add(in.number(0, s.cells() - 1));
        } else {
            s.names.put(name.text, "paper" + s.papers.size());
            TreeSet<Integer> set = new TreeSet<>();
            s.papers.add(set);
            while (!in.peek().text.equals(";")) {
                Token mark = in.name();
                String thing = s.names.getOrDefault(mark.text, "");
                if (!thing.startsWith("mark")) {
                    throw new Fault(3, mark.place);
                }
                if (!set.add(Integer.parseInt(thing.substring(4)))) {
                    throw new Fault(5, mark.place);
                }
            }
        }
    }

    private int steps;

    List<Step> readDays(String text) {
        Tokens in = new Tokens(text);
        steps = 0;
        List<Step> all = readSteps(in, 0);
        in.take("e");
        return all;
    }

    private List<Step> readSteps(Tokens in, int depth) {
        List<Step> list = new ArrayList<>();
        while (in.peek().kind != 'e' && !(depth > 0 && in.peek().text.equals("end"))) {
            Token word = in.word(Arrays.asList("file", "take", "swap", "sort", "ask", "any", "when", "loop", "stop"));
            if (steps == 30) {
                throw new Fault(6, word.place);
            }
            steps++;
            boolean opens = word.text.equals("when") || word.text.equals("loop");
            if (opens && depth == 3) {
                throw new Fault(7, word.place);
            }
            Step s = new Step();
            s.word = word.text;
            readPieces(in, s);
            in.sign(";");
            if (opens) {
                s.inside = readSteps(in, depth + 1);
                in.word(Arrays.asList("end"));
                in.sign(";");
            }
            list.add(s);
        }
        return list;
    }

    private String named(Tokens in, String kind) {
        Token name = in.name();
        String thing = now.names.getOrDefault(name.text, "");
        if (!thing.startsWith(kind)) {
            throw new Fault(3, name.place);
        }
        return thing.substring(kind.length());
    }

    private void readPieces(Tokens in, Step s) {
        switch (s.word) {
            case "file":
            case "take":
                s.pieces.add(named(in, "paper"));
                break;
            case "swap":
                s.pieces.add("" + in.number(0, now.cells() - 1));
                s.pieces.add("" + in.number(0, now.cells() - 1));
                break;
            case "ask":
                s.pieces.add(named(in, "clerk"));
                s.pieces.add(named(in, "paper"));
                break;
            case "loop":
                s.pieces.add("" + in.number(1, 99));
                break;
            case "when":
                String test = in.word(Arrays.asList("lies", "beside", "total")).text;
                s.pieces.add(test);
                if (test.equals("total")) {
                    Token sign = in.take("s");
                    if (sign.text.equals(";")) {
                        throw new Fault(2, sign.place);
                    }
                    s.pieces.add(sign.text);
                    s.pieces.add("" + in.number(0, 9999));
                } else {
                    s.pieces.add(named(in, "paper"));
                    if (test.equals("beside")) {
                        s.pieces.add(named(in, "paper"));
                    }
                }
                break;
            default:
                break;
        }
    }

    // ---- DAYS

    /** The end of a run, by stop or by the 300. */
    private static final class Over extends RuntimeException {
        private static final long serialVersionUID = 1;

        Over() {
            super(null, null, false, false);
        }
    }

    /** missed, filed, taken, found, left, steps. */
    private int[] run(State s, int seed) {
        int[] count = new int[6];
        long[] draw = {seed};
        try {
            runAll(s, s.days, count, draw);
        } catch (Over over) {
            return count;
        }
        return count;
    }

    private void runAll(State s, List<Step> list, int[] count, long[] draw) {
        for (Step step : list) {
            if (count[5] == 300) {
                count[4] = 1;
                throw new Over();
            }
            count[5]++;
            if (step.word.equals("stop")) {
                throw new Over();
            }
            if (step.word.equals("loop")) {
                for (int k = Integer.parseInt(step.pieces.get(0)); k > 0; k--) {
                    runAll(s, step.inside, count, draw);
                }
            } else if (step.word.equals("when")) {
                if (holds(s, step.pieces)) {
                    runAll(s, step.inside, count, draw);
                }
            } else {
                runOne(s, step, count, draw);
            }
        }
    }

    private static boolean holds(State s, List<String> p) {
        switch (p.get(0)) {
            case "lies": return s.lying.containsKey(Integer.parseInt(p.get(1)));
            case "beside": return s.beside(Integer.parseInt(p.get(1)), Integer.parseInt(p.get(2)));
            default:
                int order = Integer.compare(s.total(), Integer.parseInt(p.get(2)));
                return order == "<=>".indexOf(p.get(1)) - 1;
        }
    }

    private static void runOne(State s, Step step, int[] count, long[] draw) {
        int a = step.pieces.size() > 0 ? Integer.parseInt(step.pieces.get(0)) : NONE;
        int b = step.pieces.size() > 1 ? Integer.parseInt(step.pieces.get(1)) : NONE;
        String word = step.word;
        if (word.equals("any")) {
            if (s.papers.isEmpty()) {
                count[0]++;
                return;
            }
            draw[0] = (draw[0] * 3163 + 11369) % 65536;
            a = (int) (draw[0] / 8 % s.papers.size());
            word = s.lying.containsKey(a) ? "take" : "file";
        }
        int missed = count[0]++;
        if (word.equals("file") && !s.lying.containsKey(a) && s.fileCell(a) != NONE) {
            s.lying.put(a, s.fileCell(a));
            count[1]++;
        } else if (word.equals("take") && s.lying.remove(a) != null) {
            count[2]++;
        } else if (word.equals("ask") && s.ask(a, s.papers.get(b)) != NONE) {
            count[3]++;
        } else if (word.equals("sort")) {
            s.sort();
        } else if (word.equals("swap") && a != b && (s.inCell(a) != NONE || s.inCell(b) != NONE)) {
            s.swap(a, b);
        } else {
            return;
        }
        count[0] = missed;
    }

    int[] liveOn(State s, int seed) {
        return run(s, seed);
    }

    // ---- searches

    /** All ways to lay, by numbers; the first of the greatest is kept. */
    int[] best(State s) {
        List<Integer> cells = new ArrayList<>(new TreeSet<>(s.lying.values()));
        int[] found = new int[cells.size() + 1];
        found[0] = NONE;
        lay(s.copy(), cells, new ArrayList<>(), new ArrayList<>(s.lying.keySet()), found);
        return found;
    }

    private void lay(State s, List<Integer> cells, List<Integer> laid, List<Integer> left, int[] found) {
        if (left.isEmpty()) {
            for (int k = 0; k < cells.size(); k++) {
                s.lying.put(laid.get(k), cells.get(k));
            }
            int total = s.total();
            if (total > found[0]) {
                found[0] = total;
                for (int k = 0; k < cells.size(); k++) {
                    found[k + 1] = laid.get(k);
                }
            }
            return;
        }
        for (int k = 0; k < left.size(); k++) {
            List<Integer> rest = new ArrayList<>(left);
            List<Integer> more = new ArrayList<>(laid);
            more.add(rest.remove(k));
            lay(s, cells, more, rest, found);
        }
    }

    /** gain, lesser, greater. */
    int[] gain(State s) {
        int[] found = {0, NONE, NONE};
        for (int a = 0; a < s.cells(); a++) {
            for (int b = a + 1; b < s.cells(); b++) {
                State t = s.copy();
                t.swap(a, b);
                if (t.total() - s.total() > found[0]) {
                    found = new int[] {t.total() - s.total(), a, b};
                }
            }
        }
        return found;
    }

    /** The fewest swaps, by going through all that can be come to. */
    int swaps(State s) {
        State goal = s.copy();
        goal.sort();
        TreeSet<String> seen = new TreeSet<>();
        List<State> rim = new ArrayList<>();
        rim.add(s.copy());
        for (int count = 0;; count++) {
            List<State> wider = new ArrayList<>();
            for (State t : rim) {
                if (t.lying.equals(goal.lying)) {
                    return count;
                }
                for (int a = 0; a < s.cells(); a++) {
                    for (int b = 0; b < a; b++) {
                        State u = t.copy();
                        u.swap(a, b);
                        if (seen.add(u.lying.toString())) {
                            wider.add(u);
                        }
                    }
                }
            }
            rim = wider;
        }
    }

    int hide(State s, TreeSet<Integer> papers) {
        int found = number(papers);
        for (int set = 0; set <= number(papers); set++) {
            if ((set | number(papers)) != number(papers) || Integer.bitCount(set) >= Integer.bitCount(found)) {
                continue;
            }
            TreeSet<Integer> left = members(number(papers) & ~set);
            if (left.stream().noneMatch(p -> left.stream().anyMatch(q -> s.beside(p, q)))) {
                found = set;
            }
        }
        return found;
    }

    /** value, then the move by 100 times the lesser and the greater, NONE for none. */
    int[] game(State s, int turns, boolean clerk) {
        if (turns == 0) {
            return new int[] {s.total(), NONE};
        }
        int[] found = null;
        for (int a = 0; a < s.cells(); a++) {
            for (int b = a + 1; b < s.cells(); b++) {
                if (!s.besideCells(a, b) || s.inCell(a) == NONE && s.inCell(b) == NONE) {
                    continue;
                }
                State t = s.copy();
                t.swap(a, b);
                int v = game(t, turns - 1, !clerk)[0];
                if (found == null || (clerk ? v > found[0] : v < found[0])) {
                    found = new int[] {v, 100 * a + b};
                }
            }
        }
        int v = game(s, turns - 1, !clerk)[0];
        if (found == null || (clerk ? v > found[0] : v < found[0])) {
            found = new int[] {v, NONE};
        }
        return found;
    }

    /** The shortest chain, the first by numbers, or null: all ways are gone through. */
    List<Integer> chain(State s, int from, int to) {
        for (int length = 1; length <= s.papers.size(); length++) {
            List<Integer> way = new ArrayList<>();
            way.add(from);
            if (chainOf(s, way, to, length)) {
                return way;
            }
        }
        return null;
    }

    private boolean chainOf(State s, List<Integer> way, int to, int length) {
        int last = way.get(way.size() - 1);
        if (way.size() == length) {
            return last == to;
        }
        for (int p = 0; p < s.papers.size(); p++) {
            if (!way.contains(p) && s.like(last, p) >= s.near) {
                way.add(p);
                if (chainOf(s, way, to, length)) {
                    return true;
                }
                way.remove(way.size() - 1);
            }
        }
        return false;
    }

    List<int[]> rows(State s, long[] tray, int n) {
        List<int[]> rows = new ArrayList<>();
        rows.add(new int[0]);
        for (int t = 0; t < s.weights.size(); t++) {
            List<int[]> longer = new ArrayList<>();
            for (int[] row : rows) {
                for (int w = 1; w <= 3; w++) {
                    int[] more = Arrays.copyOf(row, t + 1);
                    more[t] = w;
                    longer.add(more);
                }
            }
            rows = longer;
        }
        List<int[]> fitting = new ArrayList<>();
        State t = s.copy();
        for (int[] row : rows) {
            for (int k = 0; k < row.length; k++) {
                t.weights.set(k, row[k]);
            }
            boolean fits = true;
            for (int k = 0; k < n; k++) {
                int first = (int) tray[3 * k];
                fits &= t.like(first, (int) tray[3 * k + 1]) >= t.like(first, (int) tray[3 * k + 2]);
            }
            if (fits) {
                fitting.add(row);
            }
        }
        return fitting;
    }

    /** Goes through every way in which each trait is smelt or not. */
    void smelt(State s, int p, int k) {
        int many = s.papers.get(p).size();
        long sum = 0;
        for (int set = 0; set < 1 << many; set++) {
            long odds = 1;
            for (int t = 0; t < many; t++) {
                odds *= (set >> t & 1) != 0 ? s.odds : 16 - s.odds;
            }
            sum += Integer.bitCount(set) >= k ? odds : 0;
        }
        tell(sum, 1L << 4 * many);
    }
}
