/** Promises 6 to 12, 18, 29 and 30: what is so, one gust, quarters that go by. */
public final class WindTest {
    private static final String YARD = "yard 10 10;";
    private final Calls c = new Calls();

    public static void main(String[] args) {
        WindTest test = new WindTest();
        test.cell();
        test.owner();
        test.gust();
        test.comes();
        test.turns();
        test.faces();
        test.gains();
        test.pacts();
        test.best();
        test.blow();
        test.runs();
        test.now();
        test.richest();
        test.c.finish();
    }

    private void cell() {
        c.promise("6 cell");
        GaleBank x = Calls.of("yard 3 2;owner a 0 0 1 1 1;owner b 1 0 1 1 1;tree 2 0;tree 0 1;fence 1 1;eddy 1 1 3;eddy 2 1 7;");
        int[][] want = {{1, 0, 0}, {1, 1, 0}, {2, 0, 0}, {2, 1, 0}, {3, -1, 3}, {0, -1, 7}};
        for (int i = 0; i < 6; i++) {
            for (int what = 0; what < 3; what++) {
                c.due("cell " + i + " " + what, x.cell(i / 3 * 10 + i % 3, what), want[i][what]);
            }
        }
        int[] none = {-1, 3, 9, 13, 20, 99, 100, 1000, Integer.MIN_VALUE, Integer.MAX_VALUE};
        for (int at : none) {
            c.dueThrow("cell " + at, () -> x.cell(at, 0));
        }
        c.dueThrow("cell 0 -1", () -> x.cell(0, -1));
        c.dueThrow("cell 0 3", () -> x.cell(0, 3));
        GaleBank big = Calls.of(YARD + "tree 9 9;");
        c.due("the last cell", big.cell(99, 0), 2);
        c.dueThrow("cell 100", () -> big.cell(100, 0));
        big.fell(0);
        c.due("a felled tree", big.cell(99, 0), 0);
        c.due("a felled tree", big.cell(99, 1), -1);
        big.set(99);
        c.due("a fence there", big.cell(99, 0), 3);
        c.dueThrow("an empty bank", () -> new GaleBank().cell(0, 0));
    }

    private void owner() {
        c.promise("7 owner");
        GaleBank x = Calls.of(YARD + "owner a 2 3 500 7 4;owner b 9 9 20 1 0;vane a 6;pact a b;plot a 1 1;run 5 9;gust 1 6 3;");
        int[] told = {32, 500, 0, 7, 4, 6, 0, 1, 11, 0, 0};
        for (int what = 0; what < told.length; what++) {
            c.due("owner 0 " + what, x.owner(0, what), told[what]);
        }
        x.blow(2);
        // A calm: a takes 5, b 4; then a faces, b's vane turns two eighths to 6 by three and faces too.
        int[] a = {32, 495, 5, 7, 4, 6, 0, 1, 11, 0, 0};
        int[] b = {99, 16, 4, 1, 0, 6, 0, -1, -1, 0, 0};
        for (int what = 0; what < a.length; what++) {
            c.due("owner 0 " + what, x.owner(0, what), a[what]);
            c.due("owner 1 " + what, x.owner(1, what), b[what]);
        }
        x.point(0, 3);
        c.due("stuck", x.owner(0, 6), 1);
        c.due("pointed", x.owner(0, 5), 3);
        x.oil(0);
        c.due("free", x.owner(0, 6), 0);
        c.due("STICK now", x.owner(0, 4), 0);
        c.dueThrow("owner 2", () -> x.owner(2, 0));
        c.dueThrow("owner -1", () -> x.owner(-1, 0));
        c.dueThrow("owner 0 11", () -> x.owner(0, 11));
        c.dueThrow("owner 0 -1", () -> x.owner(0, -1));
        c.dueThrow("an empty bank", () -> new GaleBank().owner(0, 0));
    }

    private void gust() {
        c.promise("8 gust");
        GaleBank x = Calls.of("gust 0 0 1;gust 47 7 9;");
        c.due("DIR", x.gust(0, 0), 0);
        c.due("FORCE", x.gust(0, 1), 1);
        c.due("DIR", x.gust(47, 0), 7);
        c.due("FORCE", x.gust(47, 1), 9);
        c.due("none", x.gust(1, 0), -1);
        c.due("what 2", x.gust(0, 2), -1);
        c.due("what -1", x.gust(0, -1), -1);
        c.due("QUARTER 48", x.gust(48, 0), -1);
        c.due("QUARTER -1", x.gust(-1, 0), -1);
        x.blow(48);
        c.due("one gone", x.gust(0, 1), 1);
    }

    private void comes() {
        c.promise("9 comes");
        int[] dx = {0, 1, 1, 1, 0, -1, -1, -1};
        int[] dy = {-1, -1, 0, 1, 1, 1, 0, -1};
        for (int dir = 0; dir < 8; dir++) {
            for (int far = 1; far <= 4; far++) {
                String at = (5 + far * dx[dir]) + " " + (5 + far * dy[dir]) + ";";
                GaleBank tree = Calls.of(YARD + "tree " + at);
                GaleBank fence = Calls.of(YARD + "fence " + at);
                for (int from = 0; from < 8; from++) {
                    boolean between = from == dir && far <= 3;
                    c.due("tree " + dir + " " + far + " " + from, tree.comes(55, from, 9, 1), between ? 7 : 9);
                    c.due("fence " + dir + " " + far + " " + from, fence.comes(55, from, 9, 1), between ? 6 : 9);
                }
            }
        }
        GaleBank x = Calls.of(YARD + "tree 5 4;fence 5 3;tree 5 2;eddy 5 5 3;tree 5 5;owner a 4 5 1 1 1;eddy 0 0 7;");
        c.due("what is left", x.comes(55, 0, 9, 1), 2);
        c.due("0 at least", x.comes(55, 0, 6, 1), 0);
        c.due("its own tree takes nothing", x.comes(55, 4, 1, 1), 1);
        c.due("a vane takes nothing", x.comes(55, 6, 1, 1), 1);
        c.due("an eddy turns it", x.comes(55, 0, 6, 0), 3);
        c.due("past north", x.comes(55, 6, 6, 0), 1);
        c.due("TURN 7", x.comes(0, 1, 5, 0), 0);
        c.due("no eddy", x.comes(54, 6, 5, 0), 6);
        c.due("an eddy on the way", x.comes(56, 6, 5, 0), 6);
        c.due("a yard's edge", x.comes(99, 3, 5, 1), 5);
        c.due("what 2", x.comes(0, 0, 1, 2), -1);
        c.due("what -1", x.comes(0, 0, 1, -1), -1);
        c.due("DIR 8", x.comes(0, 8, 1, 0), -1);
        c.due("DIR -1", x.comes(0, -1, 1, 0), -1);
        c.due("FORCE 0", x.comes(0, 0, 0, 0), -1);
        c.due("FORCE 10", x.comes(0, 0, 10, 0), -1);
        c.due("CELL 100", x.comes(100, 0, 1, 0), -1);
        c.due("CELL -1", x.comes(-1, 0, 1, 0), -1);
        x.fell(0);
        x.set(54);
        c.due("now, a tree felled", x.comes(55, 0, 9, 1), 4);
        GaleBank y = Calls.of("yard 2 10;fence 0 0;");
        c.due("no way round the edge", y.comes(10, 2, 5, 1), 5);
        y.set(1);
        c.due("a fence set", y.comes(31, 0, 9, 1), 6);
    }

    private void turns() {
        c.promise("12 turns");
        for (int from = 0; from < 8; from++) {
            for (int to = 0; to < 8; to++) {
                for (int force = 1; force <= 9; force++) {
                    GaleBank x = Calls.of(YARD + "owner a 5 5 99 1 2;vane a " + from + ";gust 0 " + to + " " + force + ";");
                    x.blow(1);
                    int way = (to - from + 8) % 8;
                    int most = Math.max(0, force - 2);
                    int want = way <= 4 ? from + Math.min(way, most) : from + 8 - Math.min(8 - way, most);
                    c.due("turn " + from + " " + to + " " + force, x.owner(0, 5), want % 8);
                }
            }
        }
        GaleBank x = Calls.of(YARD + "owner a 5 5 99 1 0;gust 0 2 9;gust 1 3 9;");
        x.point(0, 7);
        x.blow(1);
        c.due("stuck", x.owner(0, 5), 7);
        x.oil(0);
        x.blow(1);
        c.due("freed", x.owner(0, 5), 3);
    }

    private void faces() {
        c.promise("10 faces");
        GaleBank x = Calls.of(YARD + "owner a 0 9 9 1 0;owner b 1 9 9 1 0;owner c 2 9 9 1 9;owner d 3 9 9 1 9;vane c 2;eddy 2 9 2;fence 3 8;");
        c.due("north 3: a, b, and c by its eddy", x.faces(0, 3), 7);
        c.due("north 4: d, too", x.faces(0, 4), 15);
        c.due("south 3: only three eighths", x.faces(4, 3), 0);
        c.due("south 4", x.faces(4, 4), 3);
        c.due("vanes stay", x.owner(0, 5), 0);
        c.due("DIR 8", x.faces(8, 1), -1);
        c.due("DIR -1", x.faces(-1, 1), -1);
        c.due("FORCE 0", x.faces(0, 0), -1);
        c.due("FORCE 10", x.faces(0, 10), -1);
        x.point(0, 4);
        c.due("a stuck vane faces, too", x.faces(4, 1), 1);
        c.due("an empty bank", new GaleBank().faces(0, 1), 0);
    }

    private void gains() {
        c.promise("11 gains");
        // c and d lose 7 and 3 of what they have: 10 by shares 5, 3, 3: 4.54, 2.72, 2.72.
        String five = YARD + "owner a 0 9 50 5 0;owner b 1 9 50 3 0;owner e 2 9 50 3 0;owner c 3 9 50 1 9;owner d 4 9 3 1 9;vane c 4;vane d 4;";
        GaleBank x = Calls.of(five);
        int[] want = {4, 3, 3, -7, -3};
        for (int o = 0; o < 5; o++) {
            c.due("gains " + o, x.gains(o, 0, 7), want[o]);
        }
        // Of 4 and 3: 7 by shares 5, 3, 3: 3 2/11, 1 10/11, 1 10/11: two ounces over.
        int[] less = {3, 2, 2, -4, -3};
        for (int o = 0; o < 5; o++) {
            c.due("gains " + o, x.gains(o, 0, 4), less[o]);
        }
        // 2 by shares 5, 3, 3: 10/11, 6/11, 6/11: one each for a and the first of like ones.
        int[] two = {1, 1, 0, -1, -1};
        for (int o = 0; o < 5; o++) {
            c.due("gains " + o, x.gains(o, 0, 1), two[o]);
        }
        c.due("nothing is done", x.owner(3, 1), 50);
        c.due("OWNER 5", x.gains(5, 0, 7), -1001);
        c.due("OWNER -1", x.gains(-1, 0, 7), -1001);
        c.due("DIR 8", x.gains(0, 8, 7), -1001);
        c.due("DIR -1", x.gains(0, -1, 7), -1001);
        c.due("FORCE 0", x.gains(0, 0, 0), -1001);
        c.due("FORCE 10", x.gains(0, 0, 10), -1001);
    }

    private void pacts() {
        c.promise("11 pacts");
        String three = YARD + "owner a 0 9 50 1 0;owner b 1 9 50 1 9;owner c 2 9 50 1 9;vane b 4;vane c 4;";
        GaleBank x = Calls.of(three + "pact a b;pact b c;");
        // 8 to a: 2 of them to b, and no third of those to c.
        int[] want = {6, -2, -4};
        for (int o = 0; o < 3; o++) {
            c.due("gains " + o, x.gains(o, 0, 4), want[o]);
        }
        GaleBank y = Calls.of(YARD + "owner a 0 9 50 2 0;owner b 1 9 50 1 0;owner c 2 9 50 1 9;vane c 4;pact a b;pact b a;gust 0 0 9;");
        // 6 and 3: 2 go one way and 1 the other.
        c.due("a", y.gains(0, 0, 9), 5);
        c.due("b", y.gains(1, 0, 9), 4);
        y.blow(1);
        c.due("a had", y.owner(0, 10), 5);
        c.due("b had", y.owner(1, 10), 4);
        c.due("c lost", y.owner(2, 9), 9);
        c.due("a lost", y.owner(0, 9), 0);
        GaleBank z = Calls.of(three + "pact a b;gust 0 0 4;");
        z.blow(1);
        c.due("b had of a pact", z.owner(1, 10), 2);
        c.due("b lost", z.owner(1, 9), 4);
        c.due("b", z.owner(1, 1), 48);
    }

    private void best() {
        c.promise("30 best");
        GaleBank x = Calls.of(YARD + "owner a 5 5 50 1 9;owner b 6 6 50 1 9;vane a 3;vane b 2;");
        c.due("where b loses", x.best(0, 5), 3);
        c.due("b", x.best(1, 5), 2);
        x.point(1, 3);
        // Both face 3, so nothing is lost then; of all else both lose.
        c.due("no loss", x.best(0, 5), 3);
        c.due("FORCE 0", x.best(0, 0), -1);
        c.due("FORCE 10", x.best(0, 10), -1);
        c.due("OWNER 2", x.best(2, 5), -1);
        c.due("OWNER -1", x.best(-1, 5), -1);
        GaleBank poor = Calls.of("yard 2 2;owner a 0 0 0 1 9;vane a 5;");
        c.due("the first of like ones", poor.best(0, 9), 0);
    }

    private void blow() {
        c.promise("12 blow");
        GaleBank x = Calls.of("yard 2 2;owner a 0 0 9 1 9;gust 0 4 3;gust 2 0 9;");
        c.due("blow 0", x.blow(0), -1);
        c.due("blow -1", x.blow(-1), -1);
        c.due("blow 49", x.blow(49), -1);
        c.due("nothing went by", x.now(0), 0);
        c.due("blow 1", x.blow(1), 1);
        c.due("none faces: the TRUST", x.now(1), 3);
        c.due("a", x.owner(0, 1), 6);
        c.due("blow 47", x.blow(47), 47);
        c.due("a faces alone", x.owner(0, 1), 6);
        c.due("blow 1", x.blow(1), 0);
        c.due("blow 48", x.blow(48), 0);
        c.due("the next", x.now(0), 48);
        GaleBank y = new GaleBank();
        c.due("blow 40", y.blow(40), 40);
        c.due("blow 48, 8 left", y.blow(48), 8);
        GaleBank z = Calls.of("yard 2 2;owner a 0 0 2 1 0;owner b 1 1 5 1 9;vane b 4;gust 0 0 9;gust 1 0 9;");
        z.blow(2);
        c.due("b has no more to lose", z.owner(1, 1), 0);
        c.due("b lost", z.owner(1, 9), 5);
        c.due("a had", z.owner(0, 10), 5);
        GaleBank shade = Calls.of("yard 2 9;owner a 0 8 9 1 0;owner b 1 8 9 1 0;fence 1 7;gust 0 0 3;");
        shade.blow(1);
        c.due("no force, so b loses all FORCE", shade.owner(1, 1), 6);
        c.due("a", shade.owner(0, 1), 12);
    }

    private void runs() {
        c.promise("12 runs");
        String four = "yard 4 4;owner a 0 0 4 1 0;owner b 1 0 50 3 0;owner c 2 0 50 3 0;owner d 3 0 50 2 0;";
        GaleBank x = Calls.of(four + "run 10 25;gust 1 0 1;");
        x.blow(1);
        int[] purses = {0, 10, 10, 5};
        for (int o = 0; o < 4; o++) {
            c.due("purse " + o, x.owner(o, 2), purses[o]);
        }
        c.due("in RUNS", x.now(7), 25);
        x.blow(1);
        c.due("none with a gust", x.now(7), 25);
        x.blow(1);
        c.due("in RUNS", x.now(7), 50);
        GaleBank y = Calls.of(four + "run 10 999;");
        y.blow(1);
        int[] each = {4, 10, 10, 10};
        for (int o = 0; o < 4; o++) {
            c.due("purse " + o, y.owner(o, 2), each[o]);
        }
        y.blow(47);
        c.due("all gold went", y.now(2), 0);
        c.due("all PURSES", y.now(3), 154);
        GaleBank z = Calls.of(four);
        z.blow(48);
        c.due("no run told", z.now(7), 0);
        GaleBank none = Calls.of(four + "run 0 999;");
        none.blow(48);
        c.due("EACH 0", none.now(7), 0);
        GaleBank cash = Calls.of(four + "run 99 0;");
        cash.blow(48);
        c.due("CASH 0", cash.now(7), 0);
    }

    private void now() {
        c.promise("18 now");
        GaleBank x = Calls.of("yard 4 4;owner a 0 0 30 1 9;owner b 1 1 20 1 9;tree 2 2;tree 3 3;fence 0 3;run 4 6;gust 1 5 7;");
        int[] at0 = {0, 0, 50, 0, 1, 2, -1, 0};
        int[] at2 = {2, 14, 30, 6, 1, 2, 5, 6};
        for (int what = 0; what < 8; what++) {
            c.due("now " + what, x.now(what), at0[what]);
        }
        x.blow(2);
        for (int what = 0; what < 8; what++) {
            c.due("now " + what, x.now(what), at2[what]);
        }
        x.fell(1);
        x.set(33);
        c.due("fences", x.now(4), 2);
        c.due("trees", x.now(5), 1);
        c.due("now 8", x.now(8), -1);
        c.due("now -1", x.now(-1), -1);
        for (int i = 0; i < 46; i++) {
            x.blow(1);
            c.due("all together", x.now(1) + x.now(2) + x.now(3), 50);
        }
    }

    private void richest() {
        c.promise("29 richest");
        String three = "yard 4 4;owner a 0 0 30 1 9;owner b 1 1 30 1 9;owner c 2 2 26 1 9;vane c 4;gust 9 4 2;";
        GaleBank x = Calls.of(three);
        c.due("c by the gust", x.richest(), 2);
        c.due("nothing went by", x.now(0), 0);
        c.due("a, whose gold is in its PURSE by then", Calls.of(three + "run 5 5;").richest(), 0);
        GaleBank y = Calls.of("yard 4 4;owner a 0 0 29 1 9;owner b 1 1 30 1 9;owner c 2 2 30 1 9;");
        c.due("the first of like ones", y.richest(), 1);
        c.due("none", new GaleBank().richest(), -1);
    }
}
