/** Promises 34 and 35: sentences, and of whom they may be said. */
public final class SentenceTest {
    private static final String BANK = "yard 5 5;owner a 0 4 50 3 3;owner b 1 4 40 2 0;owner c 2 4 30 1 9;vane c 6;run 5 7;gust 1 6 2;";
    private final Calls c = new Calls();

    public static void main(String[] args) {
        SentenceTest test = new SentenceTest();
        test.ones();
        test.faults();
        test.fields();
        test.joints();
        test.said();
        test.c.finish();
    }

    private void ones(String text, int ones) {
        GaleBank x = new GaleBank();
        c.due("sentence " + text, Calls.sentence(x, text), ones);
        c.due("fault " + text, x.fault(), 0);
    }

    private void fault(String marked, int kind) {
        int at = marked.lastIndexOf('|');
        GaleBank x = Calls.of(BANK);
        c.due("sentence " + marked, Calls.sentence(x, marked.substring(0, at) + marked.substring(at + 1)), -1 - at);
        c.due("fault " + marked, x.fault(), kind);
    }

    private void ones() {
        c.promise("34 sentence");
        ones("faces", 1);
        ones("gold>0", 1);
        ones(" purse\n<\n999 ", 1);
        ones("not faces", 2);
        ones("not not faces", 3);
        ones("(faces)", 2);
        ones("((faces)and(not faces or gold=3))", 7);
        ones("faces and faces or faces and faces", 4);
        ones("faces" + " or faces".repeat(19), 20);
        ones("not ".repeat(7) + "faces", 8);
        ones("(".repeat(7) + "faces" + ")".repeat(7), 8);
        ones("faces and " + "(".repeat(7) + "faces or dir<3" + ")".repeat(7) + " or " + "not ".repeat(7) + "faces", 18);
        ones("faces" + " ".repeat(195), 1);
    }

    private void faults() {
        c.promise("34 faults of a sentence");
        fault("|", 1);
        fault("  |", 1);
        fault("|and", 1);
        fault("|a", 1);
        fault("|7", 1);
        fault("|owner", 1);
        fault("|)", 1);
        fault("faces |faces", 1);
        fault("faces|;", 1);
        fault("faces|)", 1);
        fault("faces and|", 1);
        fault("faces or |or", 1);
        fault("not|", 1);
        fault("(|)", 1);
        fault("(faces|", 1);
        fault("(faces |gold", 1);
        fault("faces |> 3", 1);
        fault("gold |3", 1);
        fault("gold |( 3", 1);
        fault("gold <|> 3", 1);
        fault("gold < |faces", 1);
        fault("gold < |1000", 1);
        fault("gold <|", 1);
        fault("|gold3 < 3", 1);
        fault("gold|.", 1);
        fault("faces" + " or faces".repeat(19) + " or |faces", 4);
        fault("faces" + " or faces".repeat(19) + " or |(", 4);
        fault("faces" + " or faces".repeat(19) + " or |x", 1);
        fault("not ".repeat(8) + "|faces", 4);
        fault("not ".repeat(8) + "|not", 4);
        fault("not ".repeat(8) + "|;", 1);
        fault("(".repeat(8) + "|gold > ", 4);
        fault("(".repeat(4) + "not ".repeat(4) + "|(", 4);
        fault("faces" + " ".repeat(195) + "| ", 1);
        fault(" ".repeat(199) + "|&", 1);
        fault(" ".repeat(196) + "|facesfaces", 1);
        fault(" ".repeat(197) + "fac|es and", 1);
        GaleBank x = Calls.of(BANK);
        Calls.sentence(x, "place = 2");
        c.due("a fault", Calls.sentence(x, "place = "), -9);
        c.due("it stays", x.said(0), 2);
    }

    /** Owners as bits. */
    private int who(GaleBank x, String text) {
        if (Calls.sentence(x, text) < 0) {
            return -1;
        }
        int bits = 0;
        for (int k = 0; k < x.said(-1); k++) {
            bits |= 1 << x.said(k);
        }
        return bits;
    }

    private void fields() {
        c.promise("35 said of each field");
        GaleBank x = Calls.of(BANK);
        c.due("no gust yet", who(x, "faces"), 0);
        c.due("none came, so none faces it", who(x, "not faces"), 7);
        c.due("gold", who(x, "gold < 40"), 4);
        c.due("gold", who(x, "gold = 40"), 2);
        c.due("gold", who(x, "gold > 40"), 1);
        c.due("stick", who(x, "stick > 2"), 5);
        c.due("dir", who(x, "dir = 6"), 4);
        c.due("place", who(x, "place > 0"), 6);
        c.due("place", who(x, "place < 1"), 1);
        x.blow(1);
        c.due("purse", who(x, "purse = 5"), 1);
        c.due("purse", who(x, "purse = 2"), 2);
        c.due("purse", who(x, "purse < 1"), 4);
        x.blow(1);
        // b turns by two to 6; a sticks at 0.
        c.due("faces", who(x, "faces"), 6);
        x.oil(0);
        c.due("STICK now", who(x, "stick = 0"), 3);
        x.point(2, 0);
        c.due("points no more", who(x, "faces"), 2);
    }

    private void joints() {
        c.promise("35 and, or, not");
        GaleBank x = Calls.of(BANK);
        c.due("and binds first", who(x, "place = 0 or place = 1 and place = 2"), 1);
        c.due("and binds first", who(x, "place = 2 and place = 1 or place = 0"), 1);
        c.due("brackets", who(x, "(place = 0 or place = 1) and place = 1"), 2);
        c.due("not binds one", who(x, "not place = 0 and place > 1"), 4);
        c.due("not a bracket", who(x, "not (place = 0 or place = 1)"), 4);
        c.due("not not", who(x, "not not place = 0"), 1);
        c.due("many", who(x, "place=0 or place=1 or place=2 and not gold=30"), 3);
        c.due("all", who(x, "place < 9"), 7);
        c.due("none", who(x, "place = 9"), 0);
    }

    private void said() {
        c.promise("35 said");
        GaleBank x = Calls.of(BANK);
        c.due("no SENTENCE", x.said(-1), -1);
        c.due("no SENTENCE", x.said(0), -1);
        Calls.sentence(x, "not place = 1");
        c.due("how many", x.said(-1), 2);
        c.due("first", x.said(0), 0);
        c.due("second", x.said(1), 2);
        c.due("third", x.said(2), -1);
        c.due("-2", x.said(-2), -1);
        GaleBank none = new GaleBank();
        Calls.sentence(none, "not faces");
        c.due("no OWNERS", none.said(-1), 0);
        c.due("no OWNERS", none.said(0), -1);
    }
}
