import java.util.ArrayList;
import java.util.List;

/**
 * The FAULTS of both texts in their order ("Terms", part 4; promises 10 to 12): every text that comes of a good one if
 * a token is taken away, put in or changed for another one, or if it ends early, held against the Model.
 */
public final class TextsByModelTest {
    private static final String[] TOKENS = ("floor by near odds mark weighs paper clerk at lies file take swap sort ask any"
        + " when beside total loop end stop ; < > = 0 1 3 5 6 8 9 10 16 17 99 100 9999 10000 00001 a b c d zz abcdefgh"
        + " abcdefghi ?").split(" ");
    private static final String[] REGISTRIES = {
        "floor 2 by 3 ; near 1 ; odds 16 ; mark a weighs 1 ; mark abcdefgh weighs 9 ; paper b a abcdefgh ; paper c ;"
            + " clerk d at 5 ; lies b at 5 ; lies c at 0 ;",
        "mark a weighs 1 ; mark e weighs 1 ; mark f weighs 1 ; mark g weighs 1 ; mark h weighs 1 ; mark i weighs 1 ;"
            + " mark j weighs 1 ; mark k weighs 1 ; paper b k j i h g f e a ;",
        "paper a ; paper e ; paper f ; paper g ; paper h ; paper i ; paper j ; paper k ; clerk l at 0 ; clerk m at 0 ;"
            + " clerk n at 0 ; clerk o at 0 ; lies k at 3 ; odds 0 ; near 99 ;"};
    private static final String OFFICE = "floor 2 by 3 ; mark a weighs 1 ; paper b a ; paper c ; clerk d at 5 ; lies b at 5 ;";
    private static final String[] DAYS = {
        "file b ; take c ; swap 0 5 ; sort ; ask d c ; any ; stop ;",
        "when lies b ; loop 99 ; when total < 9999 ; any ; end ; end ; end ; when beside b c ; end ; loop 1 ; end ;",
        "any ; any ; any ; any ; any ; any ; any ; any ; any ; any ; any ; any ; any ; any ; any ; any ; any ; any ; any ;"
            + " any ; any ; any ; any ; any ; any ; loop 1 ; loop 1 ; loop 1 ; end ; any ; end ; end ;"};
    private static long texts = 0;

    public static void main(String[] args) {
        for (String text : REGISTRIES) {
            edits("registry", text, 900);
        }
        for (String text : DAYS) {
            edits("days", text, 300);
        }
        System.out.println("TextsByModelTest: " + texts + " texts");
        Due.end("TextsByModelTest");
    }

    private static void edits(String name, String text, int most) {
        List<String> tokens = List.of(text.split(" "));
        check(name, text, most);
        check(name, text.replace(" ;", ";"), most);
        for (int n = 0; n < text.length(); n++) {
            check(name, text.substring(0, n), most);
        }
        for (int k = 0; k <= tokens.size(); k++) {
            for (String token : TOKENS) {
                List<String> more = new ArrayList<>(tokens);
                more.add(k, token);
                check(name, String.join(" ", more), most);
                if (k < tokens.size()) {
                    more.remove(k + 1);
                    check(name, String.join("\n", more), most);
                }
            }
            List<String> fewer = new ArrayList<>(tokens);
            fewer.subList(k, Math.min(k + 1, tokens.size())).clear();
            check(name, String.join(" ", fewer), most);
        }
        partsAgain(name, tokens, most);
    }

    /** Each part once more, at each place where one may begin. */
    private static void partsAgain(String name, List<String> tokens, int most) {
        for (int from = 0; from < tokens.size(); from = endOf(tokens, from)) {
            List<String> part = new ArrayList<>(tokens.subList(from, endOf(tokens, from)));
            for (int at = 0; at <= tokens.size(); at = at == tokens.size() ? at + 1 : endOf(tokens, at)) {
                List<String> more = new ArrayList<>(tokens);
                more.addAll(at, part);
                check(name, String.join(" ", more), most);
                more = new ArrayList<>(tokens);
                more.subList(from, endOf(tokens, from)).clear();
                more.addAll(Math.min(at, more.size()), part);
                check(name, String.join(" ", more), most);
            }
        }
    }

    private static int endOf(List<String> tokens, int from) {
        return from + tokens.subList(from, tokens.size()).indexOf(";") + 1;
    }

    private static void check(String name, String text, int most) {
        if (text.length() > most) {
            return;
        }
        texts++;
        LikeRegistry x = new LikeRegistry();
        Model m = new Model();
        if (name.equals("days")) {
            Due.registry(x, OFFICE);
            Calls.textOnModel(m, "registry", OFFICE);
        }
        Due.feed(x, text);
        long got = name.equals("registry") ? x.registry(text.length()) : x.days(text.length());
        String what = name + " of '" + text + "'";
        Due.is(what, got, Calls.textOnModel(m, name, text));
        Due.is(what + ": status", x.status(), m.status);
        Due.is(what + ": fault", x.fault(0), m.fault);
        Due.is(what + ": place", x.fault(1), m.faultPlace);
    }
}
