/** Promises 19 to 28: fences, plots, who oiled, suits, forecasts, draws. */
public final class WhatIfTest {
    private final Calls c = new Calls();

    public static void main(String[] args) {
        WhatIfTest test = new WhatIfTest();
        test.fence();
        test.has();
        test.rests();
        test.oiled();
        test.suit();
        test.worth();
        test.drawn();
        test.odds();
        test.c.finish();
    }

    private void fence() {
        c.promise("19, 20 fence, more");
        // Both face north with force 3; a fence north of b makes b lose 3 to a.
        String two = "yard 3 5;owner a 0 4 20 1 0;owner b 2 4 20 1 0;gust 5 0 3;";
        GaleBank x = Calls.of(two);
        c.due("ahead of any", x.more(), -1);
        c.due("OWNER 2", x.fence(2), -1);
        c.due("OWNER -1", x.fence(-1), -1);
        c.due("ahead of any still", x.more(), -1);
        c.due("the first by Y", x.fence(0), 12);
        c.due("more", x.more(), 3);
        c.due("for b", x.fence(1), 10);
        c.due("nothing is set", x.now(4), 0);
        x.set(32);
        c.due("b, shaded, loses anyhow", x.fence(1), -1);
        c.due("the latest that was a CELL", x.more(), 3);
        x.blow(6);
        c.due("none behind the gust", x.fence(0), -1);
        GaleBank full = Calls.of(two + "fence 1 0;fence 1 1;fence 1 2;fence 1 3;fence 1 4;fence 0 0;fence 2 0;tree 2 3;");
        c.due("seven fences", full.fence(0), 12);
        GaleBank y = Calls.of("yard 10 5;owner a 0 4 20 1 0;owner b 2 4 20 1 0;gust 5 0 3;fence 4 0;fence 4 1;fence 4 2;fence 4 3;fence 5 0;"
                + "fence 5 1;fence 5 2;fence 5 3;fence 6 0;fence 6 1;fence 6 2;");
        c.due("11 fences", y.fence(0), 12);
        y.set(36);
        c.due("12 fences", y.fence(0), -1);
        c.due("the latest that was a CELL", y.more(), 3);
        GaleBank blocked = Calls.of(two + "tree 2 1;tree 2 2;");
        // Four are taken of force 3 already, so b loses anyhow and no fence brings more.
        c.due("no more than without", blocked.fence(0), -1);
    }

    private void has() {
        c.promise("21 has");
        GaleBank x = Calls.of("yard 3 5;owner a 0 4 20 1 0;owner b 2 4 20 1 0;owner c 1 4 20 1 9;vane c 4;gust 5 0 3;run 1 1;"
                + "plot a 2 2;plot b 0 2;plot c 0 4;");
        // Without: c loses 3 to a and b, the odd ounce to a.
        c.due("none: a", x.has(0, 0), 22);
        c.due("none: b", x.has(1, 0), 21);
        c.due("none: c", x.has(2, 0), 17);
        c.due("a's: a has 6 more", x.has(0, 1), 26);
        c.due("a's: b", x.has(1, 1), 17);
        c.due("b's: b", x.has(1, 2), 26);
        c.due("both: to the TRUST", x.has(0, 3), 17);
        c.due("nothing is done", x.now(0), 0);
        c.due("c's plot has a thing", x.has(0, 4), -1);
        c.due("no such OWNER in it", x.has(0, 8), -1);
        c.due("all bits", x.has(0, -1), -1);
        c.due("the highest bit", x.has(0, 1 << 31), -1);
        c.due("OWNER 3", x.has(3, 0), -1);
        c.due("OWNER -1", x.has(-1, 0), -1);
        x.set(22);
        c.due("a's plot has a thing", x.has(0, 1), -1);
        c.due("the fence counts", x.has(0, 0), 26);
        c.due("an OWNER without a plot", Calls.of("yard 2 2;owner a 0 0 1 1 1;").has(0, 1), -1);
    }

    private void rests() {
        c.promise("22 rests");
        // To shade the other brings 3 ounces, whatever the other does or not but for both.
        String two = "yard 3 5;owner a 0 4 20 1 0;owner b 2 4 20 1 0;gust 5 0 3;";
        GaleBank x = Calls.of(two + "plot a 2 2;plot b 0 2;");
        // none: a can have 3 more; one's: the other loses 3 anyhow; both: the TRUST has it, and to change brings no more.
        c.due("has none", x.has(0, 0), 20);
        c.due("has a's", x.has(0, 1), 23);
        c.due("has both", x.has(0, 3), 17);
        c.due("has b's", x.has(0, 2), 17);
        c.due("how many", x.rests(-1), 3);
        c.due("first", x.rests(0), 1);
        c.due("second", x.rests(1), 2);
        c.due("third", x.rests(2), 3);
        c.due("fourth", x.rests(3), -1);
        c.due("rests -2", x.rests(-2), -1);
        x.set(22);
        c.due("a's plot taken", x.rests(-1), 2);
        c.due("first", x.rests(0), 0);
        c.due("second", x.rests(1), 2);
        x.image(0);
        x.undo();
        c.due("again", x.rests(-1), 3);
        x.restore(0);
        c.due("taken as kept", x.rests(-1), 2);
        Calls.bank(x, two + "plot a 2 2;plot b 0 2;");
        c.due("a new bank", x.rests(-1), 3);
        x.blow(6);
        c.due("behind the gust all rest", x.rests(-1), 4);
        c.due("rising", x.rests(2), 2);
        // One who shades himself never rests so.
        GaleBank self = Calls.of(two + "plot a 0 2;");
        c.due("how many", self.rests(-1), 1);
        c.due("which", self.rests(0), 0);
        GaleBank none = Calls.of(two);
        c.due("no plots", none.rests(-1), 1);
        c.due("no plots", none.rests(0), 0);
        StringBuilder eight = new StringBuilder("yard 10 10;");
        for (int o = 0; o < 8; o++) {
            eight.append("owner ").append((char) ('a' + o)).append(' ').append(o).append(" 0 5 1 1;");
        }
        for (int o = 0; o < 8; o++) {
            eight.append("plot ").append((char) ('a' + o)).append(' ').append(o).append(" 9;");
        }
        GaleBank all = Calls.of(eight.toString());
        c.due("all sets of eight", all.rests(-1), 256);
        c.due("the last", all.rests(255), 255);
        c.due("none such", all.rests(256), -1);
    }

    private int oiled(GaleBank x, int... dirs) {
        Calls.tape(x, Calls.bytes(dirs));
        return x.oiled();
    }

    private void oiled() {
        c.promise("23, 24 oiled");
        String two = "yard 4 4;owner a 0 3 20 1 5;owner b 3 3 20 1 0;gust 1 2 4;gust 3 4 9;gust 5 0 1;";
        GaleBank x = Calls.of(two);
        c.due("ahead of any", x.oiledAt(0), -1);
        c.due("none gone", oiled(x, 0, 0), 0);
        x.blow(2);
        // a sticks unless it was oiled ahead of 0 or 1; b turns to 2.
        c.due("by whom a points to 2", oiled(x, 2, 2), 2);
        c.due("first", x.oiledAt(0), 0);
        c.due("second", x.oiledAt(1), 1);
        c.due("third", x.oiledAt(2), -1);
        c.due("-1", x.oiledAt(-1), -1);
        c.due("as without oil: b, who never stuck", oiled(x, 0, 2), 2);
        c.due("first", x.oiledAt(0), 100);
        c.due("second", x.oiledAt(1), 101);
        c.due("two unlike", oiled(x, 2, 1), 0);
        c.due("none such", x.oiledAt(0), -1);
        oiled(x, 2, 2);
        c.due("too few", oiled(x, 2), -1);
        c.due("too many", oiled(x, 2, 2, 2), -1);
        c.due("none", oiled(x), -1);
        c.due("DIR 8", oiled(x, 2, 8), -1);
        c.due("DIR 255", oiled(x, 255, 2), -1);
        c.due("the latest that was not NONE", x.oiledAt(1), 1);
        x.point(0, 7);
        x.set(13);
        x.fell(0);
        c.due("acts count nothing", oiled(x, 2, 2), 2);
        x.blow(46);
        // Behind all: a goes to 4 by 9 above 5; oiled ahead of 0 .. 5 it goes on to 3 by the last one; later not.
        c.due("without oil a is at 4", oiled(x, 4, 5), 42 + 48);
        c.due("the first of a", x.oiledAt(0), 6);
        c.due("the first of b", x.oiledAt(42), 100);
        c.due("the last of b", x.oiledAt(89), 147);
        c.due("by the shorter way, by four as the clock goes", oiled(x, 5, 5), 6);
        c.due("the last", x.oiledAt(5), 5);
        GaleBank shade = Calls.of("yard 4 4;owner a 0 3 20 1 5;fence 0 1;tree 0 0;eddy 0 3 2;gust 0 0 7;vane a 5;");
        shade.blow(1);
        // Of 7 there are 2 left for a, who, oiled, goes by two from 5 towards 2.
        c.due("by what comes to it", oiled(shade, 3), 1);
        c.due("not all the way", oiled(shade, 2), 0);
        c.due("not as without oil", oiled(shade, 5), 0);
        oiled(x, 5, 5);
        Calls.bank(x, "");
        c.due("told still", x.oiledAt(5), 5);
        c.due("no OWNERS", oiled(x), -1);
    }

    private void suit() {
        c.promise("25 suit");
        GaleBank x = Calls.of("yard 3 5;owner a 0 4 20 1 0;owner b 2 4 20 1 0;tree 0 3;tree 2 1;gust 5 0 2;gust 7 0 3;");
        // Tree 0 leaves 0 and 1 of the gusts for a, tree 1 the same for b: gust 5 goes to the TRUST, 7 costs none.
        c.due("a without its tree", x.suit(0, 0), 4);
        c.due("b without a's tree", x.suit(1, 0), 0);
        c.due("a without b's tree", x.suit(0, 1), 0);
        c.due("b without its tree", x.suit(1, 1), 4);
        c.due("all stays", x.now(5), 2);
        c.due("tree 2", x.suit(0, 2), -10001);
        c.due("tree -1", x.suit(0, -1), -10001);
        c.due("tree 40", x.suit(0, 40), -10001);
        c.due("OWNER 2", x.suit(2, 0), -10001);
        c.due("OWNER -1", x.suit(-1, 0), -10001);
        x.fell(1);
        c.due("a felled tree", x.suit(0, 1), -10001);
        c.due("b would lose its gain", x.suit(1, 0), -2);
        x.blow(6);
        c.due("from now on", x.suit(1, 0), 0);
    }

    private int worth(GaleBank x, int o, int... pairs) {
        Calls.tape(x, Calls.bytes(pairs));
        return x.worth(o);
    }

    private void worth() {
        c.promise("26 worth");
        GaleBank x = Calls.of("yard 4 4;owner a 0 3 50 1 9;owner b 3 3 20 1 0;gust 1 4 4;gust 3 4 5;gust 46 1 9;gust 47 6 9;");
        // a sticks at 0 and loses 4, 5, 9 and 9 but where it points right; b faces all.
        c.due("one", worth(x, 0, 1, 4), 9);
        c.due("it is not stuck by that, nor turned by later gusts", worth(x, 0, 3, 4), 5);
        c.due("both, and the last", worth(x, 0, 1, 4, 46, 1, 47, 6), 27);
        c.due("a calm ahead of it", worth(x, 0, 0, 4, 2, 5), 4);
        c.due("ahead of a calm, to be right much later", worth(x, 0, 2, 1), 9);
        c.due("b would lose nothing: it turns", worth(x, 1, 1, 2), 0);
        c.due("vanes stay", x.owner(0, 5), 0);
        c.due("none", worth(x, 0), -10001);
        c.due("odd", worth(x, 0, 1, 4, 3), -10001);
        c.due("not rising", worth(x, 0, 3, 4, 1, 4), -10001);
        c.due("twice", worth(x, 0, 3, 4, 3, 4), -10001);
        c.due("QUARTER 48", worth(x, 0, 48, 4), -10001);
        c.due("QUARTER 255", worth(x, 0, 255, 4), -10001);
        c.due("DIR 8", worth(x, 0, 1, 8), -10001);
        c.due("DIR 200", worth(x, 0, 1, 200), -10001);
        c.due("OWNER 2", worth(x, 2, 1, 4), -10001);
        c.due("OWNER -1", worth(x, -1, 1, 4), -10001);
        int[] many = new int[50];
        for (int i = 0; i < 25; i++) {
            many[2 * i] = i;
            many[2 * i + 1] = 4;
        }
        c.due("25", worth(x, 0, many), -10001);
        c.due("24", worth(x, 0, java.util.Arrays.copyOf(many, 48)), 9);
        x.blow(2);
        c.due("one gone counts nothing", worth(x, 0, 1, 4), 0);
        c.due("one gone and one to come", worth(x, 0, 1, 6, 3, 4), 5);
        x.blow(46);
        c.due("all gone", worth(x, 0, 1, 4), 0);
    }

    private void drawn() {
        c.promise("27 drawn");
        GaleBank x = Calls.of("yard 4 4;owner a 0 3 500 1 0;owner b 3 3 500 1 9;vane b 3;gust 0 3 9;");
        int seed = 5;
        int gold = 500;
        int vane = 0;
        for (int n = 1; n <= 48; n++) {
            seed = seed * 1103515245 + 12345;
            int force = (seed >>> 8) % 10;
            if (force > 0) {
                seed = seed * 1103515245 + 12345;
                int dir = (seed >>> 8) % 8;
                for (int i = 0; i < force && vane != dir; i++) {
                    vane = (vane + ((dir - vane + 8) % 8 <= 4 ? 1 : 7)) % 8;
                }
                boolean mine = vane == dir;
                boolean others = dir == 3;
                gold += mine && !others ? force : mine ? 0 : -force;
            }
            c.due("drawn " + n, x.drawn(0, n, 5), gold);
        }
        c.due("n 0", x.drawn(0, 0, 5), -1);
        c.due("n 49", x.drawn(0, 49, 5), -1);
        c.due("OWNER 2", x.drawn(2, 1, 5), -1);
        c.due("OWNER -1", x.drawn(-1, 1, 5), -1);
        c.due("all stays", x.now(2), 1000);
        x.blow(48);
        c.due("behind QUARTER 47, too", x.drawn(1, 48, 5) != x.owner(1, 1), true);
    }

    private void odds() {
        c.promise("28 odds");
        String text = "yard 4 4;owner a 0 3 500 1 2;owner b 3 3 500 1 3;vane b 3;tree 0 1;run 3 4;";
        int all = 0;
        for (int n = 1; n <= 100; n++) {
            GaleBank x = Calls.of(text);
            int less = 0;
            for (int i = 0; i < n; i++) {
                less += x.drawn(1, 12, Integer.MAX_VALUE - 4 + i) < 500 ? 1 : 0;
            }
            c.due("odds " + n, x.odds(1, n, Integer.MAX_VALUE - 4), less);
            all = less;
        }
        c.due("seeds differ", all > 0 && all < 100, true);
        GaleBank x = Calls.of(text);
        c.due("n 0", x.odds(0, 0, 5), -1);
        c.due("n 101", x.odds(0, 101, 5), -1);
        c.due("OWNER 2", x.odds(2, 1, 5), -1);
        c.due("OWNER -1", x.odds(-1, 1, 5), -1);
        GaleBank poor = Calls.of("yard 2 2;owner a 0 0 0 1 0;run 9 9;");
        c.due("none has less than none", poor.odds(0, 100, 1), 0);
    }
}
