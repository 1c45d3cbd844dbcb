import java.util.ArrayList;
import java.util.List;
import java.util.Random;

/** REGISTRIES and DAYS by chance: mostly without a FAULT, some with a byte or a token changed. */
final class TextsByChance {
    private static final String[] TOKENS = ("floor by near odds mark weighs paper clerk at lies file take swap sort ask any"
        + " when beside total loop end stop ; < > = 0 1 2 5 7 9 16 17 99 100 9999 12345 a b c d e abcdefgh abcdefghi ?")
        .split(" ");
    private final Random chance;
    private int deepest;

    TextsByChance(Random chance) {
        this.chance = chance;
    }

    private int upTo(int most) {
        return chance.nextInt(most + 1);
    }

    private String blank() {
        return new String[] {" ", "\n", "  ", " \n "}[chance.nextInt(4)];
    }

    private String join(List<String> tokens) {
        StringBuilder text = new StringBuilder();
        for (String t : tokens) {
            boolean apart = text.length() > 0 && (chance.nextInt(20) == 0
                || Character.isLetterOrDigit(text.charAt(text.length() - 1)) && Character.isLetterOrDigit(t.charAt(0)));
            text.append(apart ? chance.nextInt(4) == 0 ? blank() : " " : "").append(t);
        }
        return text.toString();
    }

    private static void add(List<String> to, String part) {
        for (String t : part.split(" ")) {
            to.add(t);
        }
    }

    private String spoilt(List<String> tokens) {
        if (chance.nextInt(3) > 0 && !tokens.isEmpty()) {
            int at = chance.nextInt(tokens.size());
            switch (chance.nextInt(8)) {
                case 0: tokens.set(at, TOKENS[chance.nextInt(TOKENS.length)]); break;
                case 1: tokens.add(at, TOKENS[chance.nextInt(TOKENS.length)]); break;
                case 2: tokens.remove(at); break;
                case 3: tokens.subList(at, tokens.size()).clear(); break;
                case 4: partAgain(tokens, at); break;
                default: otherOfItsKind(tokens, at); break;
            }
        }
        String text = join(tokens);
        if (chance.nextInt(4) == 0 && !text.isEmpty()) {
            int at = chance.nextInt(text.length());
            text = text.substring(0, at) + (char) chance.nextInt(256) + text.substring(at + 1);
        }
        return text;
    }

    private void partAgain(List<String> tokens, int at) {
        int from = Math.max(0, tokens.subList(0, at).lastIndexOf(";") + 1);
        int to = tokens.subList(from, tokens.size()).indexOf(";") + from + 1;
        tokens.addAll(new ArrayList<>(tokens.subList(from, Math.max(from, to))));
    }

    private void otherOfItsKind(List<String> tokens, int at) {
        String old = tokens.get(at);
        if (Character.isDigit(old.charAt(0))) {
            tokens.set(at, "" + new int[] {0, 3, 5, 6, 10, 17, 100, 9999, 10000}[chance.nextInt(9)]);
        } else {
            String other = tokens.get(chance.nextInt(tokens.size()));
            tokens.set(at, old.length() == other.length() ? other : old);
        }
    }

    private String finished(List<String> tokens, boolean spoil, int most) {
        String text = spoil ? spoilt(tokens) : join(tokens);
        return text.length() > most ? text.substring(0, most) : text;
    }

    String registry(boolean spoil) {
        List<String> t = new ArrayList<>();
        int wide = 3;
        int high = 2;
        if (chance.nextInt(5) > 0) {
            wide = 1 + upTo(4);
            high = 1 + upTo(3);
            add(t, "floor " + wide + " by " + high + " ;");
        }
        if (chance.nextBoolean()) {
            add(t, "near " + (1 + upTo(8)) + " ;");
        }
        if (chance.nextBoolean()) {
            add(t, "odds " + upTo(16) + " ;");
        }
        int traits = chance.nextInt(4) == 0 ? upTo(spoil ? 9 : 8) : 3 + upTo(3);
        int papers = chance.nextInt(4) == 0 ? upTo(spoil ? 9 : 8) : 3 + upTo(4);
        int clerks = upTo(spoil ? 5 : 4);
        for (int k = 0; k < traits; k++) {
            add(t, "mark m" + (char) ('a' + k) + " weighs " + (1 + upTo(8)) + " ;");
        }
        for (int p = 0; p < papers; p++) {
            add(t, "paper p" + (char) ('a' + p));
            for (int k = 0; k < traits; k++) {
                if (chance.nextInt(5) < 2) {
                    t.add("m" + (char) ('a' + k));
                }
            }
            t.add(";");
        }
        for (int c = 0; c < clerks; c++) {
            add(t, "clerk k" + (char) ('a' + c) + " at " + upTo(wide * high - 1) + " ;");
        }
        List<Integer> cells = new ArrayList<>();
        for (int c = 0; c < wide * high; c++) {
            cells.add(c);
        }
        java.util.Collections.shuffle(cells, chance);
        for (int p = 0; p < papers && p < cells.size(); p++) {
            if (chance.nextInt(4) > 0) {
                add(t, "lies p" + (char) ('a' + p) + " at " + cells.get(p) + " ;");
            }
        }
        return finished(t, spoil, 900);
    }

    /** Mostly one that there is; names stand for the first papers and clerks alone, as many as were told. */
    private String name(String first, int many) {
        return first + (char) ('a' + chance.nextInt(many + (chance.nextInt(40) == 0 ? 2 : 1)));
    }

    String days(Model.State s, boolean spoil) {
        List<String> t = new ArrayList<>();
        deepest = spoil ? 4 : 2;
        steps(t, s, 0, 1 + upTo(9));
        return finished(t, spoil, 300);
    }

    private void steps(List<String> t, Model.State s, int depth, int many) {
        int papers = Math.max(1, s.papers.size()) - 1;
        int clerks = Math.max(1, s.clerks.size()) - 1;
        for (int k = 0; k < many; k++) {
            int kind = chance.nextInt(depth > deepest ? 8 : 12);
            switch (kind) {
                case 0: add(t, "file " + name("p", papers) + " ;"); break;
                case 1: add(t, "take " + name("p", papers) + " ;"); break;
                case 2: add(t, "swap " + upTo(s.cells() - 1) + " " + upTo(s.cells() - 1) + " ;"); break;
                case 3: add(t, "sort ;"); break;
                case 4: add(t, "ask " + name("k", clerks) + " " + name("p", papers) + " ;"); break;
                case 5:
                case 6: add(t, "any ;"); break;
                case 7: add(t, chance.nextInt(5) == 0 ? "stop ;" : "any ;"); break;
                case 8: add(t, "when lies " + name("p", papers) + " ;"); break;
                case 9: add(t, "when beside " + name("p", papers) + " " + name("p", papers) + " ;"); break;
                case 10: add(t, "when total " + "<>=".charAt(chance.nextInt(3)) + " " + upTo(20) + " ;"); break;
                default: add(t, "loop " + (1 + upTo(chance.nextInt(3) == 0 ? 98 : 5)) + " ;"); break;
            }
            if (kind > 7) {
                steps(t, s, depth + 1, upTo(3));
                add(t, "end ;");
            }
        }
    }
}
