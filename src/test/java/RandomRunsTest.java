import java.util.Arrays;
import java.util.Random;

/** Runs of calls by chance (the same ones every time), each answer held against the Model. */
public final class RandomRunsTest {
    private static final int[] ODD = {-1, Integer.MIN_VALUE, Integer.MAX_VALUE, 8, 20, 21, 61, 256, 10000};
    private final Random chance;
    private final LikeRegistry x = new LikeRegistry();
    private final Model m = new Model();
    private final StringBuilder run = new StringBuilder();

    private RandomRunsTest(long seed) {
        chance = new Random(seed);
    }

    public static void main(String[] args) {
        int runs = args.length > 0 ? Integer.parseInt(args[0]) : 400;
        long calls = 0;
        for (int seed = 1; seed <= runs; seed++) {
            calls += new RandomRunsTest(seed).go(seed);
        }
        for (int seed = 1; seed <= runs / 10; seed++) {
            calls += new RandomRunsTest(-seed).goBySingleTraits();
        }
        System.out.println("RandomRunsTest: " + runs + " runs, " + calls + " calls as due");
    }

    private int go(int seed) {
        int calls = 100;
        TextsByChance texts = new TextsByChance(chance);
        text("registry", texts.registry(seed % 10 == 0));
        text("days", texts.days(m.now, seed % 4 == 0));
        for (int k = 0; k < calls; k++) {
            int kind = chance.nextInt(70);
            if (kind == 0) {
                text("registry", texts.registry(chance.nextBoolean()));
            } else if (kind < 4) {
                text("days", texts.days(m.now, chance.nextInt(3) == 0));
            } else {
                call(Calls.NAMES[chance.nextInt(Calls.NAMES.length)]);
            }
            if (k % 7 == 0) {
                fillTray();
            }
        }
        return calls;
    }

    /** Papers of one trait against papers of the others, so that weights are sure now and then. */
    private int goBySingleTraits() {
        int traits = 2 + chance.nextInt(3);
        StringBuilder marks = new StringBuilder();
        for (int t = 0; t < traits; t++) {
            marks.append("mark m").append((char) ('a' + t)).append(" weighs 1;");
        }
        text("registry", marks.toString());
        int all = (1 << traits) - 1;
        call("scrawl", all);
        for (int t = 0; t < traits; t++) {
            call("scrawl", 1 << t);
        }
        for (int t = 0; t + traits < 7; t++) {
            call("scrawl", all & ~(1 << t % traits));
        }
        Model.State hidden = m.now.copy();
        int heavy = chance.nextInt(traits);
        for (int t = 0; t < traits; t++) {
            hidden.weights.set(t, t == heavy ? 3 : 1 + chance.nextInt(3) / 2);
        }
        call("tray", 1, chance.nextInt(4), 60);
        for (int k = 0; k < 60; k += 3) {
            putThree(hidden, k, 0);
        }
        for (int n = 0; n <= 20; n++) {
            call("weighed", 1, n);
            for (int t = 0; t < traits; t++) {
                call("sure", t, 1, n);
            }
        }
        return 31 + 21 * traits;
    }

    private void text(String name, String text) {
        Due.feed(x, text);
        long got = name.equals("registry") ? x.registry(text.length()) : x.days(text.length());
        check(name + " of '" + text + "'", got, Calls.textOnModel(m, name, text));
        for (int what = 0; what < 2; what++) {
            call("fault", what);
        }
        for (int what = 0; what < 10; what++) {
            call("told", what);
        }
    }

    /** So that weighed() and sure() often have threes of papers, mostly such as some row of weights fits. */
    private void fillTray() {
        call("tray", 1, chance.nextInt(4), 60);
        int many = m.now.papers.size();
        Model.State hidden = m.now.copy();
        hidden.weights.replaceAll(w -> 1 + chance.nextInt(3));
        for (int k = 0; k < 60 && many > 0; k += 3) {
            putThree(hidden, k, chance.nextInt(many));
        }
    }

    private void putThree(Model.State hidden, int at, int first) {
        int second = chance.nextInt(m.now.papers.size());
        int third = chance.nextInt(m.now.papers.size());
        boolean turn = hidden.like(first, second) < hidden.like(first, third) && chance.nextInt(99) > 0;
        int[] three = {first, turn ? third : second, turn ? second : third};
        for (int k = 0; k < 3; k++) {
            x.write(1, at + k, three[k]);
            m.trays[1][at + k] = three[k];
        }
    }

    private void call(String name) {
        int[] a = new int[5];
        for (int k = 0; k < a.length; k++) {
            a[k] = number(name, k);
        }
        call(name, a);
    }

    private int number(String name, int k) {
        if (chance.nextInt(25) == 0) {
            return ODD[chance.nextInt(ODD.length)];
        }
        String kinds = kindsOf(name);
        char kind = k < kinds.length() ? kinds.charAt(k) : '-';
        switch (kind) {
            case 'p': return oneOf(m.now.papers.size());
            case 't': return oneOf(m.now.weights.size());
            case 'k': return oneOf(m.now.clerks.size());
            case 'c': return oneOf(m.now.cells());
            case 'T': return chance.nextInt(1 << m.now.weights.size());
            case 'P': return chance.nextInt(1 << m.now.papers.size());
            case 'n': return chance.nextInt(4);
            case '2': return chance.nextInt(3);
            case 'r': return 4 + chance.nextInt(4);
            case '5': return chance.nextInt(6);
            case 'w': return chance.nextInt(10);
            case 's': return chance.nextInt(10000);
            case 'y': return chance.nextInt(5) > 0 ? 1 : chance.nextInt(4);
            case 'N': return chance.nextBoolean() ? chance.nextInt(4) : chance.nextInt(21);
            case 'm': return 1 + chance.nextInt(20);
            case '6': return chance.nextInt(60);
            default: return chance.nextInt(9);
        }
    }

    /** One of so many, or, now and then, the first that there is not. */
    private int oneOf(int many) {
        return many == 0 || chance.nextInt(30) == 0 ? many : chance.nextInt(many);
    }

    private static String kindsOf(String name) {
        switch (name) {
            case "tray": return "ynm";
            case "write":
            case "read": return "y6s";
            case "pour": return "ywyww";
            case "trait": return "t2";
            case "traits": case "cellOf": case "file": case "take": case "beside": case "kinship": case "likest":
            case "filedIn": case "group": return "p";
            case "paperIn": case "bestIn": return "c";
            case "clerk": case "skill": case "toil": return "k";
            case "lay": return "pc";
            case "swap": return "cc";
            case "stain": return "ptn";
            case "weigh": return "tw";
            case "walk": return "kc";
            case "ask": case "find": case "paces": return "kT";
            case "scrawl": return "T";
            case "likeness": case "chain": return "pp";
            case "chainAt": return "ppn";
            case "smell": return "cT";
            case "looking": return "Tn";
            case "guess": return "Tp";
            case "hide": case "hideSet": return "P";
            case "weighed": return "yN";
            case "sure": return "tyN";
            case "game": case "moveOf": return "n";
            case "gainAt": return "2";
            case "rule": return "rw";
            case "lived": return "5";
            case "copyFloor": return "y";
            case "smelt": return "pw";
            case "live": return "s";
            case "mean": return "sm";
            default: return "w";
        }
    }

    private boolean tooSlowForTheModel(String name, int[] a) {
        int lying = m.now.lying.size();
        if (name.startsWith("best")) {
            return lying > 7;
        }
        if (name.equals("swaps")) {
            return lying > 5 || m.now.cells() > 9;
        }
        if (name.equals("game") || name.equals("moveOf")) {
            return a[0] == 3 && lying > 4 && chance.nextInt(10) != 0;
        }
        return false;
    }

    private void call(String name, int... given) {
        int[] a = Arrays.copyOf(given, 5);
        if (tooSlowForTheModel(name, a)) {
            return;
        }
        check(name + Arrays.toString(a), Calls.onReal(x, name, a), Calls.onModel(m, name, a));
    }

    private void check(String call, long got, long want) {
        run.append(call).append(" -> ").append(want).append(" (").append(m.status).append(")\n");
        if (got != want || x.status() != m.status || x.top() != m.top || x.bottom() != m.bottom) {
            System.out.println(run);
            System.out.println("answered " + got + " (" + x.status() + "), " + x.top() + "/" + x.bottom()
                + "; due is " + want + " (" + m.status + "), " + m.top + "/" + m.bottom);
            System.exit(1);
        }
    }
}
