import java.util.ArrayList;
import java.util.Arrays;
import java.util.List;
import java.util.TreeSet;

/** Each call of the face by its name, on LikeRegistry and on the Model (a boolean counts 1 or 0). */
final class Calls {
    static final String[] NAMES = ("tray write read pour told trait traits cellOf paperIn clerk file lay take swap sort"
        + " stain weigh walk ask scrawl rule likeness smell beside kinship likest oddest filedIn find paces skill toil"
        + " looking guess chain chainAt group groups best bestIn gain gainAt disorder swaps hide hideSet weighed sure"
        + " game moveOf smelt copyFloor live lived mean mark undo fault").split(" ");

    private Calls() {
    }

    private static long bit(boolean b) {
        return b ? 1 : 0;
    }

    static long onReal(LikeRegistry x, String name, int[] a) {
        switch (name) {
            case "tray": return bit(x.tray(a[0], a[1], a[2]));
            case "write": return bit(x.write(a[0], a[1], a[2] * 0x1_0001_0101L));
            case "read": return x.read(a[0], a[1]);
            case "pour": return bit(x.pour(a[0], a[1], a[2], a[3], a[4]));
            case "told": return x.told(a[0]);
            case "trait": return x.trait(a[0], a[1]);
            case "traits": return x.traits(a[0]);
            case "cellOf": return x.cellOf(a[0]);
            case "paperIn": return x.paperIn(a[0]);
            case "clerk": return x.clerk(a[0]);
            case "file": return x.file(a[0]);
            case "lay": return bit(x.lay(a[0], a[1]));
            case "take": return x.take(a[0]);
            case "swap": return x.swap(a[0], a[1]);
            case "sort": return x.sort();
            case "stain": return bit(x.stain(a[0], a[1], a[2] > 0));
            case "weigh": return bit(x.weigh(a[0], a[1]));
            case "walk": return bit(x.walk(a[0], a[1]));
            case "ask": return x.ask(a[0], a[1]);
            case "scrawl": return x.scrawl(a[0]);
            case "rule": return bit(x.rule(a[0], a[1]));
            case "likeness": return x.likeness(a[0], a[1]);
            case "smell": return x.smell(a[0], a[1]);
            case "beside": return x.beside(a[0]);
            case "kinship": return x.kinship(a[0]);
            case "likest": return x.likest(a[0]);
            case "oddest": return x.oddest();
            case "filedIn": return x.filedIn(a[0]);
            case "find": return x.find(a[0], a[1]);
            case "paces": return x.paces(a[0], a[1]);
            case "skill": return bit(x.skill(a[0]));
            case "toil": return bit(x.toil(a[0]));
            default: return moreOnReal(x, name, a);
        }
    }

    private static long moreOnReal(LikeRegistry x, String name, int[] a) {
        switch (name) {
            case "looking": return x.looking(a[0], a[1]);
            case "guess": return bit(x.guess(a[0], a[1]));
            case "chain": return x.chain(a[0], a[1]);
            case "chainAt": return x.chainAt(a[0], a[1], a[2]);
            case "group": return x.group(a[0]);
            case "groups": return x.groups();
            case "best": return x.best();
            case "bestIn": return x.bestIn(a[0]);
            case "gain": return x.gain();
            case "gainAt": return x.gainAt(a[0]);
            case "disorder": return x.disorder();
            case "swaps": return x.swaps();
            case "hide": return x.hide(a[0]);
            case "hideSet": return x.hideSet(a[0]);
            case "weighed": return x.weighed(a[0], a[1]);
            case "sure": return x.sure(a[0], a[1], a[2]);
            case "game": return x.game(a[0]);
            case "moveOf": return x.moveOf(a[0]);
            case "smelt": return bit(x.smelt(a[0], a[1]));
            case "copyFloor": return x.copyFloor(a[0]);
            case "live": return x.live(a[0]);
            case "lived": return x.lived(a[0]);
            case "mean": return bit(x.mean(a[0], a[1]));
            case "mark": return x.mark();
            case "undo": return x.undo();
            case "fault": return x.fault(a[0]);
            default: throw new IllegalArgumentException(name);
        }
    }

    /** What is due; the Model's status is set. */
    static long onModel(Model m, String name, int[] a) {
        if (name.equals("fault")) {
            return a[0] == 0 ? m.fault : a[0] == 1 ? m.faultPlace : Model.NONE;
        }
        try {
            long v = due(m, name, a);
            m.status = 0;
            return v;
        } catch (Model.Refusal r) {
            m.status = r.status;
            return "tray write pour lay stain weigh walk rule skill toil guess smelt mean".contains(name)
                ? 0 : Model.NONE;
        }
    }

    private static boolean isTray(int t) {
        return t >= 0 && t < 4;
    }

    private static long due(Model m, String name, int[] a) {
        switch (name) {
            case "tray":
                Model.need(isTray(a[0]) && a[1] >= 0 && a[1] < 4 && a[2] >= 0 && a[2] <= 60, 1);
                m.trays[a[0]] = new long[a[2]];
                m.sorts[a[0]] = a[1];
                return 1;
            case "write":
            case "read":
                Model.need(isTray(a[0]), 1);
                Model.need(m.trays[a[0]] != null, 2);
                Model.need(a[1] >= 0 && a[1] < m.trays[a[0]].length, 3);
                if (name.equals("read")) {
                    return m.trays[a[0]][a[1]];
                }
                int away = 64 - (8 << m.sorts[a[0]]);
                m.trays[a[0]][a[1]] = a[2] * 0x1_0001_0101L << away >> away;
                return 1;
            case "pour":
                Model.need(isTray(a[0]) && isTray(a[2]) && a[1] >= 0 && a[3] >= 0 && a[4] >= 0, 1);
                Model.need(m.trays[a[0]] != null && m.trays[a[2]] != null, 2);
                Model.need(m.sorts[a[0]] == m.sorts[a[2]], 8);
                Model.need(0L + a[1] + a[4] <= m.trays[a[0]].length && 0L + a[3] + a[4] <= m.trays[a[2]].length, 3);
                long[] poured = Arrays.copyOfRange(m.trays[a[0]], a[1], a[1] + a[4]);
                for (int k = 0; k < poured.length; k++) {
                    m.trays[a[2]][a[3] + k] = poured[k];
                }
                return 1;
            case "copyFloor":
                Model.need(isTray(a[0]), 1);
                Model.need(m.trays[a[0]] != null, 2);
                Model.need(m.trays[a[0]].length >= m.now.cells(), 3);
                for (int c = 0; c < m.now.cells(); c++) {
                    m.trays[a[0]][c] = m.now.inCell(c);
                }
                return m.now.cells();
            default: return dueOfOffice(m, name, a);
        }
    }

    private static long orNone(int v) {
        Model.need(v != Model.NONE, 6);
        return v;
    }

    private static long dueOfOffice(Model m, String name, int[] a) {
        Model.State s = m.now;
        switch (name) {
            case "told":
                Model.need(a[0] >= 0 && a[0] <= 9, 1);
                TreeSet<Integer> empty = new TreeSet<>();
                for (int c = 0; c < s.cells(); c++) {
                    if (s.inCell(c) == Model.NONE) {
                        empty.add(c);
                    }
                }
                return new int[] {s.weights.size(), s.papers.size(), s.clerks.size(), s.wide, s.high, s.near, s.odds,
                    Model.number(s.lying.keySet()), Model.number(empty), s.total()}[a[0]];
            case "trait":
                m.trait(a[0]);
                Model.need(a[1] == 0 || a[1] == 1, 1);
                if (a[1] == 0) {
                    return s.weights.get(a[0]);
                }
                TreeSet<Integer> have = new TreeSet<>();
                for (int p = 0; p < s.papers.size(); p++) {
                    if (s.papers.get(p).contains(a[0])) {
                        have.add(p);
                    }
                }
                return Model.number(have);
            case "traits":
                m.paper(a[0]);
                return Model.number(s.papers.get(a[0]));
            case "cellOf":
                m.paper(a[0]);
                return orNone(s.lying.getOrDefault(a[0], Model.NONE));
            case "paperIn":
                m.cell(a[0]);
                return orNone(s.inCell(a[0]));
            case "clerk":
                m.clerk(a[0]);
                return s.clerks.get(a[0]);
            default: return dueOfDeeds(m, name, a);
        }
    }

    private static long dueOfDeeds(Model m, String name, int[] a) {
        Model.State s = m.now;
        switch (name) {
            case "file":
                m.paper(a[0]);
                int cell = (int) orNone(s.fileCell(a[0]));
                Model.need(!s.lying.containsKey(a[0]), 7);
                s.lying.put(a[0], cell);
                return cell;
            case "lay":
                m.paper(a[0]);
                m.cell(a[1]);
                Model.need(!s.lying.containsKey(a[0]) && s.inCell(a[1]) == Model.NONE, 7);
                s.lying.put(a[0], a[1]);
                return 1;
            case "take":
                m.paper(a[0]);
                Model.need(s.lying.containsKey(a[0]), 7);
                return s.lying.remove(a[0]);
            case "swap":
                m.cell(a[0]);
                m.cell(a[1]);
                Model.need(a[0] != a[1] && (s.inCell(a[0]) != Model.NONE || s.inCell(a[1]) != Model.NONE), 7);
                s.swap(a[0], a[1]);
                return s.total();
            case "sort":
                Model.State old = s.copy();
                s.sort();
                return s.lying.keySet().stream().filter(p -> !s.lying.get(p).equals(old.lying.get(p))).count();
            case "stain":
                m.paper(a[0]);
                m.trait(a[1]);
                Model.need(s.papers.get(a[0]).contains(a[1]) != a[2] > 0, 7);
                if (a[2] > 0) {
                    s.papers.get(a[0]).add(a[1]);
                } else {
                    s.papers.get(a[0]).remove(a[1]);
                }
                return 1;
            case "weigh":
                m.trait(a[0]);
                Model.need(a[1] >= 1 && a[1] <= 9, 1);
                s.weights.set(a[0], a[1]);
                return 1;
            case "walk":
                m.clerk(a[0]);
                m.cell(a[1]);
                Model.need(s.clerks.get(a[0]) != a[1], 7);
                s.clerks.set(a[0], a[1]);
                return 1;
            case "ask":
                m.clerk(a[0]);
                return orNone(s.ask(a[0], m.traitSet(a[1])));
            case "scrawl":
                TreeSet<Integer> set = m.traitSet(a[0]);
                Model.need(s.papers.size() < 8, 4);
                s.papers.add(set);
                return s.papers.size() - 1;
            case "rule":
                Model.need(a[0] == 5 && a[1] >= 1 && a[1] <= 99 || a[0] == 6 && a[1] >= 0 && a[1] <= 16, 1);
                s.near = a[0] == 5 ? a[1] : s.near;
                s.odds = a[0] == 6 ? a[1] : s.odds;
                return 1;
            default: return dueOfLikeness(m, name, a);
        }
    }

    private static long dueOfLikeness(Model m, String name, int[] a) {
        Model.State s = m.now;
        int many = s.papers.size();
        switch (name) {
            case "likeness":
                m.paper(a[0]);
                m.paper(a[1]);
                Model.need(a[0] != a[1], 1);
                return s.like(a[0], a[1]);
            case "smell":
                m.cell(a[0]);
                return s.smell(a[0], m.traitSet(a[1]));
            case "beside":
            case "kinship":
                m.paper(a[0]);
                Model.need(s.lying.containsKey(a[0]), 7);
                TreeSet<Integer> set = new TreeSet<>();
                int sum = 0;
                for (int q = 0; q < many; q++) {
                    if (s.beside(a[0], q)) {
                        set.add(q);
                        sum += s.like(a[0], q);
                    }
                }
                return name.equals("beside") ? Model.number(set) : sum;
            case "likest":
                m.paper(a[0]);
                int likest = Model.NONE;
                for (int q = many - 1; q >= 0; q--) {
                    if (q != a[0] && (likest == Model.NONE || s.like(a[0], q) >= s.like(a[0], likest))) {
                        likest = q;
                    }
                }
                return orNone(likest);
            case "oddest":
                int oddest = Model.NONE;
                int least = Integer.MAX_VALUE;
                for (int p = 0; p < many; p++) {
                    int all = -s.like(p, p);
                    for (int q = 0; q < many; q++) {
                        all += s.like(p, q);
                    }
                    if (all < least) {
                        least = all;
                        oddest = p;
                    }
                }
                return orNone(oddest);
            case "filedIn":
                m.paper(a[0]);
                return orNone(s.fileCell(a[0]));
            default: return dueOfSearches(m, name, a);
        }
    }

    private static long dueOfSearches(Model m, String name, int[] a) {
        Model.State s = m.now;
        switch (name) {
            case "find":
                m.clerk(a[0]);
                return orNone(s.finds(a[0], m.traitSet(a[1])));
            case "paces":
                m.clerk(a[0]);
                return s.search(a[0], m.traitSet(a[1])).size() - 1;
            case "skill":
            case "toil":
                m.clerk(a[0]);
                Model.need(!s.lying.isEmpty(), 6);
                int sum = 0;
                for (int p : s.lying.keySet()) {
                    sum += name.equals("toil") ? s.search(a[0], s.papers.get(p)).size() - 1
                        : s.finds(a[0], s.papers.get(p)) == p ? 1 : 0;
                }
                return m.tell(sum, s.lying.size());
            case "looking":
                TreeSet<Integer> set = m.traitSet(a[0]);
                Model.need(a[1] >= 0, 1);
                List<Integer> order = new ArrayList<>(s.lying.keySet());
                order.sort((p, q) -> s.like(s.papers.get(q), set) - s.like(s.papers.get(p), set));
                Model.need(a[1] < order.size(), 6);
                return order.get(a[1]);
            case "guess":
                TreeSet<Integer> by = m.traitSet(a[0]);
                m.paper(a[1]);
                Model.need(s.lying.containsKey(a[1]), 7);
                int most = s.lying.keySet().stream().mapToInt(p -> s.like(s.papers.get(p), by)).max().orElse(0);
                long many = s.lying.keySet().stream().filter(p -> s.like(s.papers.get(p), by) == most).count();
                return s.like(s.papers.get(a[1]), by) == most ? m.tell(1, many) : m.tell(0, 1);
            case "chain":
            case "chainAt":
                m.paper(a[0]);
                m.paper(a[1]);
                Model.need(name.equals("chain") || a[2] >= 0, 1);
                List<Integer> chain = m.chain(s, a[0], a[1]);
                Model.need(chain != null && (name.equals("chain") || a[2] < chain.size()), 6);
                return name.equals("chain") ? chain.size() : chain.get(a[2]);
            case "group":
                m.paper(a[0]);
                return Model.number(group(m, a[0]));
            case "groups":
                TreeSet<Integer> sets = new TreeSet<>();
                for (int p = 0; p < s.papers.size(); p++) {
                    sets.add(Model.number(group(m, p)));
                }
                return sets.size();
            default: return dueOfLying(m, name, a);
        }
    }

    private static TreeSet<Integer> group(Model m, int p) {
        TreeSet<Integer> set = new TreeSet<>();
        for (int q = 0; q < m.now.papers.size(); q++) {
            if (m.chain(m.now, p, q) != null) {
                set.add(q);
            }
        }
        return set;
    }

    private static long dueOfLying(Model m, String name, int[] a) {
        Model.State s = m.now;
        switch (name) {
            case "best": return m.best(s)[0];
            case "bestIn":
                m.cell(a[0]);
                Model.need(s.inCell(a[0]) != Model.NONE, 6);
                return m.best(s)[1 + new TreeSet<>(s.lying.values()).headSet(a[0]).size()];
            case "gain":
                Model.need(m.gain(s)[0] > 0, 6);
                return m.gain(s)[0];
            case "gainAt":
                Model.need(a[0] == 0 || a[0] == 1, 1);
                Model.need(m.gain(s)[0] > 0, 6);
                return m.gain(s)[1 + a[0]];
            case "disorder":
                int wrong = 0;
                for (int p : s.lying.keySet()) {
                    for (int q : s.lying.keySet()) {
                        wrong += p < q && s.lying.get(p) > s.lying.get(q) ? 1 : 0;
                    }
                }
                return wrong;
            case "swaps": return m.swaps(s);
            case "hide": return Integer.bitCount(m.hide(s, m.set(a[0], s.papers.size())));
            case "hideSet": return m.hide(s, m.set(a[0], s.papers.size()));
            case "weighed": return rows(m, a[0], a[1]).size();
            case "sure":
                m.trait(a[0]);
                TreeSet<Integer> seen = new TreeSet<>();
                for (int[] row : rows(m, a[1], a[2])) {
                    seen.add(row[a[0]]);
                }
                Model.need(seen.size() == 1, 6);
                return seen.first();
            case "game":
                Model.need(a[0] >= 0 && a[0] <= 3, 1);
                return m.game(s, a[0], true)[0];
            case "moveOf":
                Model.need(a[0] >= 1 && a[0] <= 3, 1);
                return orNone(m.game(s, a[0], true)[1]);
            case "smelt":
                m.paper(a[0]);
                Model.need(a[1] >= 0 && a[1] <= 8, 1);
                m.smelt(s, a[0], a[1]);
                return 1;
            default: return dueOfDays(m, name, a);
        }
    }

    private static List<int[]> rows(Model m, int tray, int n) {
        Model.need(isTray(tray) && n >= 0 && n <= 20, 1);
        Model.need(m.trays[tray] != null, 2);
        Model.need(m.trays[tray].length >= 3 * n, 3);
        for (int k = 0; k < 3 * n; k++) {
            Model.need(m.trays[tray][k] >= 0 && m.trays[tray][k] < m.now.papers.size(), 5);
        }
        return m.rows(m.now, m.trays[tray], n);
    }

    private static long dueOfDays(Model m, String name, int[] a) {
        switch (name) {
            case "live":
                Model.need(a[0] >= 0 && a[0] <= 9999, 1);
                Model.need(m.now.days != null, 6);
                m.lived = m.liveOn(m.now, a[0]);
                return m.lived[5];
            case "lived":
                Model.need(a[0] >= 0 && a[0] <= 4, 1);
                Model.need(m.lived != null, 6);
                return m.lived[a[0]];
            case "mean":
                Model.need(a[0] >= 0 && a[1] >= 1 && a[1] <= 20 && 0L + a[0] + a[1] - 1 <= 9999, 1);
                Model.need(m.now.days != null, 6);
                long sum = 0;
                for (int k = 0; k < a[1]; k++) {
                    Model.State s = m.now.copy();
                    m.liveOn(s, a[0] + k);
                    sum += s.total();
                }
                return m.tell(sum, a[1]);
            case "mark":
                Model.need(m.marks.size() < 3, 4);
                m.marks.add(m.now.copy());
                return m.marks.size();
            case "undo":
                Model.need(!m.marks.isEmpty(), 6);
                m.now = m.marks.remove(m.marks.size() - 1);
                return m.marks.size();
            default: throw new IllegalArgumentException(name);
        }
    }

    /** registry() or days() of a text that was fed: what is due. */
    static long textOnModel(Model m, String name, String text) {
        try {
            long v;
            if (name.equals("registry")) {
                m.now = Model.readRegistry(text);
                v = m.now.papers.size();
            } else {
                List<Model.Step> days = m.readDays(text);
                m.now.days = days;
                v = count(days);
            }
            m.fault = 0;
            m.faultPlace = Model.NONE;
            m.status = 0;
            return v;
        } catch (Model.Fault f) {
            m.fault = f.kind;
            m.faultPlace = f.place;
            m.status = 9;
            return Model.NONE;
        }
    }

    private static int count(List<Model.Step> steps) {
        int many = steps.size();
        for (Model.Step s : steps) {
            many += count(s.inside);
        }
        return many;
    }
}
