/** Promises 4 and 5: banks as texts, and every kind of fault with its place. */
public final class BankTest {
    private static final String YARD = "yard 4 4;";
    private static final String A = "yard 4 4;owner a 0 0 1 1 1;";
    private static final String AB = "yard 4 4;owner a 0 0 1 1 1;owner b 1 0 1 1 1;";
    private static final String ALL_WORDS = "yard owner vane tree fence eddy gust pact plot run set fell oil point blow or and not"
            + " faces gold purse stick dir place";

    private final Calls c = new Calls();

    public static void main(String[] args) {
        BankTest test = new BankTest();
        test.sound();
        test.tokens();
        test.numbers();
        test.toldTwice();
        test.tooMany();
        test.length();
        test.itStays();
        test.c.finish();
    }

    private void sound(String text, int lines) {
        GaleBank x = new GaleBank();
        c.due("bank " + text, Calls.bank(x, text), lines);
        c.due("fault " + text, x.fault(), 0);
    }

    /** The fault is at the last | of the text, which is taken out. */
    private void fault(String marked, int kind) {
        int at = marked.lastIndexOf('|');
        String text = marked.substring(0, at) + marked.substring(at + 1);
        GaleBank x = new GaleBank();
        c.due("bank " + marked, Calls.bank(x, text), -1 - at);
        c.due("fault " + marked, x.fault(), kind);
    }

    private void sound() {
        c.promise("4 bank");
        sound("", 0);
        sound(" \n ", 0);
        sound(YARD, 1);
        sound("yard 2 2;", 1);
        sound("yard\n10 10 ;\n\n", 1);
        sound("yard 004 010;", 1);
        sound("run 99 999;gust 47 7 9;gust 0 0 1;yard 2 10;tree 1 9;", 5);
        sound("yard 4 4;owner abcdef 3 3 999 99 9;owner b 0 0 0 1 0;vane abcdef 7;", 4);
        sound(AB + "pact a b;pact b a;plot a 0 0;plot b 0 1;eddy 0 0 7;eddy 0 1 1;", 9);
        GaleBank x = Calls.of(AB + "vane b 5;pact b a;plot a 2 3;tree 3 3;gust 5 6 7;run 3 4;eddy 1 0 2;");
        c.due("no vane line", x.owner(0, 5), 0);
        c.due("vane", x.owner(1, 5), 5);
        c.due("pact", x.owner(1, 7), 0);
        c.due("no pact", x.owner(0, 7), -1);
        c.due("plot", x.owner(0, 8), 32);
        c.due("no plot", x.owner(1, 8), -1);
        c.due("eddy", x.cell(1, 2), 2);
    }

    private void tokens() {
        c.promise("5 fault 1");
        fault("|x", 1);
        fault("|7;", 1);
        fault("|;", 1);
        fault(YARD + "|;", 1);
        fault("yard 4 4|", 1);
        fault("yard 4 4 \n|", 1);
        fault("|yard4 4;", 1);
        fault("yard |4x 4;", 1);
        fault("yard |0004 4;", 1);
        fault("yard 4|,4;", 1);
        fault("yard 4|\t4;", 1);
        fault("yard |; 4;", 1);
        fault("yard |a 4;", 1);
        fault("yard 4 4 |4;", 1);
        fault("yard 4 4|.", 1);
        fault("|yardyar 4 4;", 1);
        fault("|Yard 4 4;", 1);
        fault("|set 0 0;", 1);
        fault(YARD + "owner |abcdefg 0 0 1 1 1;", 1);
        fault(YARD + "owner |a1 0 0 1 1 1;", 1);
        fault(YARD + "owner |7 0 0 1 1 1;", 1);
        fault(YARD + "tree |a 0;", 1);
        fault("tree |;", 1);
        fault(A + "vane |3 3;", 1);
        for (String word : ALL_WORDS.split(" ")) {
            fault(YARD + "owner |" + word + " 0 0 1 1 1;", 1);
            fault(YARD + "vane |" + word + " 0;", 1);
        }
    }

    private void numbers() {
        c.promise("5 fault 2");
        fault("yard |1 4;", 2);
        fault("yard |11 4;", 2);
        fault("yard 4 |1;", 2);
        fault("yard 4 |11;", 2);
        fault("tree |0 0;", 2);
        fault("fence |0 0;", 2);
        fault("eddy |0 0 1;", 2);
        fault("owner a |0 0 1 1 1;", 2);
        fault("yard 3 4;tree |3 0;", 2);
        fault("yard 3 4;tree 2 |4;", 2);
        fault("yard 4 3;fence 3 |3;", 2);
        fault(YARD + "owner a 0 0 1 |0 1;", 2);
        fault(YARD + "owner a 0 0 1 |100 1;", 2);
        fault(YARD + "owner a 0 0 1 1 |10;", 2);
        fault(A + "vane a |8;", 2);
        fault(YARD + "eddy 0 0 |0;", 2);
        fault(YARD + "eddy 0 0 |8;", 2);
        fault("gust |48 0 1;", 2);
        fault("gust 0 |8 1;", 2);
        fault("gust 0 0 |0;", 2);
        fault("gust 0 0 |10;", 2);
        fault(A + "plot a |4 0;", 2);
        fault(A + "plot a 0 |4;", 2);
        fault("run |100 0;", 2);
    }

    private void toldTwice() {
        c.promise("5 fault 3");
        fault(YARD + "|yard 4 4;", 3);
        fault(YARD + "|yard x;", 3);
        fault("run 0 0;|run 0 0;", 3);
        fault(A + "owner |a 0 0 1 1 1;", 3);
        fault(A + "owner b 0 |0 1 1 1;", 3);
        fault(A + "tree 0 |0;", 3);
        fault(A + "fence 0 |0;", 3);
        fault(YARD + "tree 1 0;owner a 1 |0 1 1 1;", 3);
        fault(YARD + "tree 1 0;tree 1 |0;", 3);
        fault(YARD + "fence 1 0;owner a 1 |0 1 1 1;", 3);
        fault(YARD + "fence 1 0;fence 1 |0;", 3);
        fault(YARD + "fence 1 0;tree 1 |0;", 3);
        fault(YARD + "eddy 1 0 3;eddy 1 |0 3;", 3);
        fault("gust 9 0 1;gust |9 8 1;", 3);
        fault(A + "vane a 1;vane |a 1;", 3);
        fault(A + "vane |b 1;", 3);
        fault("vane |a 1;" + A, 3);
        fault(A + "pact a |a;", 3);
        fault(A + "pact a |b;", 3);
        fault(A + "pact |b a;", 3);
        fault(AB + "pact a b;pact |a a;", 3);
        fault(A + "plot a 1 1;plot |a 2 2;", 3);
        fault(AB + "plot a 1 1;plot b 1 |1;", 3);
        fault(A + "plot |z 9 9;", 3);
    }

    private static String many(String word, int n, String behind) {
        StringBuilder b = new StringBuilder("yard 10 10;");
        for (int i = 0; i < n; i++) {
            b.append(word).append(word.equals("owner ") ? (char) ('a' + i) + " " : "").append(i % 10).append(' ').append(i / 10).append(behind);
        }
        return b.toString();
    }

    private void tooMany() {
        c.promise("5 fault 4");
        sound(many("owner ", 8, " 1 1 1;"), 9);
        fault(many("owner ", 8, " 1 1 1;") + "|owner a 0 0 0 0 0;", 4);
        fault(many("owner ", 8, " 1 1 1;") + "|owner", 4);
        sound(many("tree ", 12, ";"), 13);
        fault(many("tree ", 12, ";") + "|tree 0 0;", 4);
        sound(many("fence ", 12, ";"), 13);
        fault(many("fence ", 12, ";") + "|fence 9 9;", 4);
        sound(many("eddy ", 8, " 1;"), 9);
        fault(many("eddy ", 8, " 1;") + "|eddy 9 9 1;", 4);
        StringBuilder gusts = new StringBuilder();
        for (int q = 0; q < 30; q++) {
            gusts.append("gust ").append(q).append(" 0 1;");
        }
        sound(gusts.toString(), 30);
        fault(gusts + "|gust 0 0 1;", 4);
    }

    private void length() {
        c.promise("5 the most bytes");
        String pad = " ".repeat(900 - YARD.length());
        sound(YARD + pad, 1);
        sound(pad + YARD, 1);
        fault(YARD + pad + "| ", 1);
        fault(YARD + pad + "|tree 9 9;", 1);
        fault(" " + pad + "yard 4 4|;", 1);
        // A token that begins ahead of the 900th byte is read whole, and its own fault comes first.
        fault(pad + " yard 4 |44;", 2);
        fault(pad + " yard 4 |4444;", 1);
        fault(pad + "  yard 4 |44;", 1);
        fault(pad + "   yard 4| 4;", 1);
        fault(" ".repeat(896) + "|yardyard", 1);
        fault(" ".repeat(896) + "yard|  4 4;", 1);
        fault(" ".repeat(900) + "|#", 1);
        fault(" ".repeat(899) + "|#", 1);
    }

    private void itStays() {
        c.promise("4 it stays");
        GaleBank x = Calls.of(A + "gust 0 0 3;");
        Calls.plan(x, "oil a;");
        Calls.sentence(x, "faces");
        x.blow(2);
        c.due("a faulty bank", Calls.bank(x, "yard 5 5;x"), -10);
        c.due("W", x.count(0), 4);
        c.due("the next QUARTER", x.now(0), 2);
        c.due("the PLAN", x.count(7), 1);
        c.due("the SENTENCE", x.said(-1), 1);
        c.due("undo", x.undo(), 0);
        x.blow(2);
        x.set(33);
        c.due("a new bank", Calls.bank(x, "yard 5 5;"), 1);
        c.due("the fault is gone", x.fault(), 0);
        c.due("W", x.count(0), 5);
        c.due("OWNERS", x.count(2), 0);
        c.due("gusts", x.count(4), 0);
        c.due("the next QUARTER", x.now(0), 0);
        c.due("the latest gust", x.now(6), -1);
        c.due("fences", x.now(4), 0);
        c.due("no PLAN", x.count(7), 0);
        c.due("no SENTENCE", x.said(-1), -1);
        c.due("nothing to undo", x.undo(), -1);
        Calls.plan(x, "x");
        c.due("fault of plan", x.fault(), 1);
        Calls.sentence(x, "gold > 1");
        c.due("fault of sentence", x.fault(), 0);
    }
}
