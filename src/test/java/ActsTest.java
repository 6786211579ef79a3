/** Promises 13 to 17, 31 to 33 and 36 to 38: acts, undo, plans, images, count. */
public final class ActsTest {
    private static final String BANK = "yard 5 5;owner a 0 4 50 1 3;owner b 1 4 40 1 0;tree 0 3;tree 3 3;fence 4 4;gust 0 0 5;gust 3 4 9;run 2 3;";
    private final Calls c = new Calls();

    public static void main(String[] args) {
        ActsTest test = new ActsTest();
        test.set();
        test.fell();
        test.oil();
        test.point();
        test.undo();
        test.undoOfAll();
        test.plan();
        test.planFaults();
        test.judge();
        test.judgeWrong();
        test.image();
        test.restore();
        test.count();
        test.c.finish();
    }

    private void set() {
        c.promise("13 set");
        GaleBank x = Calls.of(BANK);
        c.due("a vane", x.set(40), 1);
        c.due("a tree", x.set(30), 1);
        c.due("a fence", x.set(44), 1);
        c.due("CELL 5", x.set(5), -1);
        c.due("CELL 50", x.set(50), -1);
        c.due("CELL -1", x.set(-1), -1);
        c.due("CELL 100", x.set(100), -1);
        c.due("nothing to undo", x.undo(), -1);
        c.due("set", x.set(0), 0);
        c.due("it is there", x.cell(0, 0), 3);
        c.due("fences", x.now(4), 2);
        c.due("again", x.set(0), 1);
        for (int i = 0; i < 10; i++) {
            c.due("set " + i, x.set(i / 5 * 10 + 10 + i % 5), 0);
        }
        c.due("12 fences", x.now(4), 12);
        c.due("a 13th", x.set(1), 2);
        c.due("a 13th on a thing: the least", x.set(0), 1);
        x.undo();
        c.due("room again", x.set(1), 0);
        x.undo();
        x.blow(48);
        c.due("behind QUARTER 47", x.set(1), 0);
    }

    private void fell() {
        c.promise("14 fell");
        GaleBank x = Calls.of(BANK);
        c.due("fell -1", x.fell(-1), 3);
        c.due("fell 2", x.fell(2), 3);
        c.due("fell 12", x.fell(12), 3);
        c.due("fell 33", x.fell(33), 3);
        c.due("fell 0", x.fell(0), 0);
        c.due("trees", x.now(5), 1);
        c.due("trees told", x.count(3), 2);
        c.due("its CELL", x.cell(30, 0), 0);
        c.due("the other", x.cell(33, 1), 1);
        c.due("fell 0 again", x.fell(0), 3);
        c.due("a fence there", x.set(30), 0);
        c.due("fell 0 again", x.fell(0), 3);
        c.due("the fence stays", x.cell(30, 0), 3);
        c.due("fell 1", x.fell(1), 0);
        c.due("trees", x.now(5), 0);
    }

    private void oil() {
        c.promise("15 oil");
        GaleBank x = Calls.of(BANK);
        c.due("oil 2", x.oil(2), false);
        c.due("oil -1", x.oil(-1), false);
        c.due("oil 0", x.oil(0), true);
        c.due("STICK", x.owner(0, 4), 0);
        x.point(1, 2);
        c.due("oil 1", x.oil(1), true);
        c.due("free", x.owner(1, 6), 0);
        c.due("it points so still", x.owner(1, 5), 2);
        c.due("oil twice", x.oil(1), true);
        c.due("undo", x.undo(), 3);
    }

    private void point() {
        c.promise("16 point");
        GaleBank x = Calls.of(BANK);
        c.due("point 2", x.point(2, 0), false);
        c.due("point -1", x.point(-1, 0), false);
        c.due("DIR 8", x.point(0, 8), false);
        c.due("DIR -1", x.point(0, -1), false);
        c.due("nothing to undo", x.undo(), -1);
        c.due("point", x.point(0, 7), true);
        c.due("it points", x.owner(0, 5), 7);
        c.due("stuck", x.owner(0, 6), 1);
        c.due("its STICK stays", x.owner(0, 4), 3);
        x.blow(4);
        c.due("it points so still", x.owner(0, 5), 7);
    }

    private void undo() {
        c.promise("17 undo");
        GaleBank x = Calls.of(BANK);
        for (int i = 0; i < 12; i++) {
            x.point(0, i % 8);
        }
        c.due("8 are kept", x.undo(), 7);
        c.due("the one before", x.owner(0, 5), 2);
        for (int i = 6; i >= 0; i--) {
            c.due("undo", x.undo(), i);
        }
        c.due("the fourth", x.owner(0, 5), 3);
        c.due("none more", x.undo(), -1);
        c.due("it stays", x.owner(0, 5), 3);
        x.oil(0);
        c.due("one again", x.undo(), 0);
        c.due("as before", x.owner(0, 6), 1);
    }

    private void undoOfAll() {
        c.promise("17 undo of each act");
        GaleBank x = Calls.of(BANK);
        x.blow(4);
        x.set(0);
        x.fell(0);
        x.oil(0);
        x.point(1, 1);
        Calls.plan(x, "blow 2;fell 1;set 1 1;");
        c.due("a PLAN lived", x.judge(1), -1);
        x.judge(0);
        x.blow(0);
        x.set(0);
        x.fell(0);
        x.oil(7);
        x.point(7, 0);
        x.fence(0);
        x.worth(0);
        Calls.sentence(x, "faces");
        c.due("only what was done: the PLAN", x.undo(), 5);
        c.due("its QUARTERS", x.now(0), 4);
        c.due("its tree", x.now(5), 1);
        c.due("its fence", x.now(4), 2);
        c.due("the PLAN stays", x.count(7), 3);
        c.due("the SENTENCE stays", x.said(-1) >= 0, true);
        c.due("point", x.undo(), 4);
        c.due("free", x.owner(1, 6), 0);
        c.due("oil", x.undo(), 3);
        c.due("STICK", x.owner(0, 4), 3);
        c.due("fell", x.undo(), 2);
        c.due("the tree", x.cell(30, 0), 2);
        c.due("its number", x.cell(30, 1), 0);
        c.due("set", x.undo(), 1);
        c.due("no fence", x.cell(0, 0), 0);
        c.due("blow", x.undo(), 0);
        int[] told = {0, 0, 90, 0, 1, 2, -1, 0};
        for (int what = 0; what < 8; what++) {
            c.due("now " + what, x.now(what), told[what]);
        }
        c.due("lost", x.owner(0, 9), 0);
        c.due("had", x.owner(1, 10), 0);
        c.due("points", x.owner(1, 5), 0);
        Calls.plan(x, "fell 9;");
        x.judge(1);
        c.due("a PLAN of which nothing was done", x.undo(), -1);
        Calls.plan(x, "oil a;fell 9;");
        x.judge(1);
        c.due("a PLAN done as far as it is not WRONG", x.undo(), 0);
        c.due("STICK", x.owner(0, 4), 3);
    }

    private void plan() {
        c.promise("31 plan");
        GaleBank x = Calls.of(BANK);
        c.due("none", Calls.plan(x, ""), 0);
        c.due("each", Calls.plan(x, "set 4 0;fell 1;\noil b ; point a 7;blow 48;"), 5);
        c.due("LINES", x.count(7), 5);
        c.due("a fault", Calls.plan(x, "set 4 0;;"), -9);
        c.due("it stays", x.count(7), 5);
        c.due("it stays", x.judge(0), -1);
        c.due("LINES done", x.judged(1), 5);
        c.due("30", Calls.plan(x, "oil a;".repeat(30)), 30);
        c.due("none again", Calls.plan(x, ""), 0);
        c.due("none again", x.count(7), 0);
    }

    private void fault(String marked, int kind) {
        int at = marked.lastIndexOf('|');
        GaleBank x = Calls.of(BANK);
        c.due("plan " + marked, Calls.plan(x, marked.substring(0, at) + marked.substring(at + 1)), -1 - at);
        c.due("fault " + marked, x.fault(), kind);
    }

    private void planFaults() {
        c.promise("31 faults of a plan");
        fault("|tree 0 0;", 1);
        fault("|faces", 1);
        fault("|x", 1);
        fault("set 0|;", 1);
        fault("oil a|", 1);
        fault("oil |set;", 1);
        fault("oil |0;", 1);
        fault("point a|;", 1);
        fault("fell |a;", 1);
        fault("set |5 0;", 2);
        fault("set 0 |5;", 2);
        fault("point a |8;", 2);
        fault("blow |0;", 2);
        fault("blow |49;", 2);
        fault("oil |z;", 3);
        fault("point |z 9;", 3);
        fault("oil a;".repeat(30) + "|oil z;", 4);
        fault("oil a;".repeat(30) + "|tree 0 0;", 1);
        fault("oil a;".repeat(30) + "|oil", 4);
        fault("oil a;" + " ".repeat(394) + "| ", 1);
        fault(" ".repeat(399) + "|$", 1);
        fault(" ".repeat(396) + "|oiloiloil a;", 1);
        GaleBank x = Calls.of(BANK);
        c.due("400 bytes", Calls.plan(x, " ".repeat(394) + "oil a;"), 1);
        GaleBank none = new GaleBank();
        c.due("X without a yard", Calls.plan(none, "set 0 0;"), -5);
        c.due("its kind", none.fault(), 2);
        c.due("a tree is asked for when it is felled", Calls.plan(none, "fell 999;"), 1);
        c.due("then it is WRONG", none.judge(0), 0);
        c.due("why", none.judged(0), 3);
    }

    private void judge() {
        c.promise("32, 33 judge");
        GaleBank x = Calls.of(BANK);
        c.due("ahead of any", x.judged(0), -1);
        c.due("lives 2", x.judge(2), -2);
        c.due("lives -1", x.judge(-1), -2);
        c.due("still ahead of any", x.judged(1), -1);
        Calls.plan(x, "point a 4;point b 4;blow 1;set 2 2;");
        c.due("not lived", x.judge(0), -1);
        // Both point south, so five of each go to the TRUST.
        int[] end = {0, 4, 1, 10, 2};
        for (int what = 0; what < 5; what++) {
            c.due("judged " + what, x.judged(what), end[what]);
        }
        c.due("judged 5", x.judged(5), -1);
        c.due("judged -1", x.judged(-1), -1);
        c.due("all stays", x.now(0), 0);
        c.due("all stays", x.owner(0, 6), 0);
        c.due("all stays", x.cell(22, 0), 0);
        c.due("lived", x.judge(1), -1);
        c.due("QUARTER", x.now(0), 1);
        c.due("TRUST", x.now(1), 10);
        c.due("fence", x.cell(22, 0), 3);
        c.due("WRONG now", x.judge(0), 3);
        int[] again = {1, 3, 2, 10, 2};
        for (int what = 0; what < 5; what++) {
            c.due("judged " + what, x.judged(what), again[what]);
        }
        c.due("lives 7 tells nothing", x.judge(7), -2);
        c.due("judged", x.judged(0), 1);
        Calls.bank(x, "");
        c.due("told still", x.judged(0), 1);
    }

    private void judgeWrong() {
        c.promise("32 WRONG");
        GaleBank x = Calls.of(BANK);
        Calls.plan(x, "oil a;set 0 4;blow 3;");
        c.due("a thing", x.judge(1), 1);
        c.due("why", x.judged(0), 1);
        c.due("LINES done", x.judged(1), 1);
        c.due("done so far", x.owner(0, 4), 0);
        c.due("no farther", x.now(0), 0);
        Calls.plan(x, "set 0 0;set 1 0;set 2 0;set 3 0;set 4 0;set 0 1;set 1 1;set 2 1;set 3 1;set 4 1;set 0 2;set 1 2;");
        c.due("a 13th fence", x.judge(0), 11);
        c.due("why", x.judged(0), 2);
        c.due("fences", x.judged(4), 12);
        Calls.plan(x, "fell 0;set 0 3;fell 0;");
        c.due("no such tree now", x.judge(0), 2);
        c.due("why", x.judged(0), 3);
        Calls.plan(x, "fell 2;");
        c.due("no such tree", x.judge(0), 0);
        c.due("why", x.judged(0), 3);
        Calls.plan(x, "blow 40;blow 40;oil a;blow 1;");
        c.due("QUARTER 47 is gone", x.judge(1), 3);
        c.due("why", x.judged(0), 4);
        c.due("the next", x.judged(2), 48);
        c.due("lived as far", x.now(0), 48);
    }

    private void image() {
        c.promise("36 image");
        GaleBank x = Calls.of(BANK);
        c.due("image -1", x.image(-1), false);
        c.due("image 2", x.image(2), false);
        c.due("image 0", x.image(0), true);
        c.due("image 1", x.image(1), true);
        x.blow(3);
        c.due("image 1 again", x.image(1), true);
        c.due("acts are undone still", x.undo(), 0);
        x.restore(1);
        c.due("the later one", x.now(0), 3);
        x.restore(0);
        c.due("the earlier one", x.now(0), 0);
        x.blow(9);
        x.restore(0);
        c.due("it is kept still", x.now(0), 0);
    }

    private void restore() {
        c.promise("37 restore");
        GaleBank x = Calls.of(BANK);
        c.due("restore -1", x.restore(-1), false);
        c.due("restore 2", x.restore(2), false);
        c.due("nothing kept", x.restore(0), false);
        Calls.plan(x, "blow 1;oil a;");
        Calls.sentence(x, "place = 1");
        x.blow(4);
        x.fell(0);
        x.set(0);
        x.image(0);
        c.due("the other place", x.restore(1), false);
        Calls.bank(x, "yard 2 2;owner z 0 0 9 9 9;x");
        Calls.bank(x, "yard 2 2;owner z 0 0 9 9 9;");
        Calls.plan(x, "oil z;");
        Calls.sentence(x, "x");
        x.judge(0);
        x.feed(1, 2, 3, 4, 5);
        x.blow(1);
        c.due("restore", x.restore(0), true);
        int[] told = {5, 5, 2, 2, 2, 2, 3, 2, 20};
        for (int what = 0; what < 9; what++) {
            c.due("count " + what, x.count(what), told[what]);
        }
        c.due("QUARTER", x.now(0), 4);
        c.due("trees", x.now(5), 1);
        c.due("fences", x.now(4), 2);
        c.due("gust", x.gust(3, 1), 9);
        c.due("SENTENCE", x.said(0), 1);
        c.due("fault stays", x.fault(), 1);
        c.due("judged stays", x.judged(1), 1);
        c.due("nothing can be undone", x.undo(), -1);
        x.end(0);
        c.due("its names", Calls.plan(x, "oil b;"), 1);
        c.due("not the other's", Calls.plan(x, "oil z;"), -5);
        Calls.tape(x, Calls.bytes(0, 4));
        c.due("oiled by the BANK as it was told", x.oiled() >= 0, true);
        GaleBank y = new GaleBank();
        y.image(1);
        Calls.bank(y, BANK);
        Calls.sentence(y, "faces");
        c.due("an empty one", y.restore(1), true);
        c.due("no yard", y.count(0), 0);
        c.due("no SENTENCE", y.said(-1), -1);
    }

    private void count() {
        c.promise("38 count");
        GaleBank x = Calls.of("yard 3 7;owner a 0 0 1 1 1;tree 1 1;tree 2 2;gust 5 5 5;gust 7 7 7;gust 9 1 9;run 11 222;");
        Calls.plan(x, "oil a;oil a;oil a;oil a;");
        x.feed(0, 0, 0, 0, 0);
        int[] want = {3, 7, 1, 2, 3, 11, 222, 4, 20};
        for (int what = 0; what < 9; what++) {
            c.due("count " + what, x.count(what), want[what]);
        }
        c.due("count 9", x.count(9), -1);
        c.due("count -1", x.count(-1), -1);
    }
}
