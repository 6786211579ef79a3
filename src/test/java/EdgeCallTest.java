import java.util.Arrays;

/** Promises 1 to 38, sentence by sentence: the least and the most, refused calls, what is empty, full or not told yet. */
public final class EdgeCallTest {
    /** No number below 0 but NONE, and none above 1000, is any call's number in these tests. */
    private static final int[] WILD = {-2, -3, -100, Integer.MIN_VALUE, Integer.MIN_VALUE + 1, 1001, 1 << 16, 1 << 30, Integer.MAX_VALUE};
    private static final String BANK = "yard 5 4;owner a 0 3 50 2 3;owner b 4 3 40 1 0;tree 0 2;tree 3 1;fence 4 0;eddy 1 1 2;"
            + "gust 0 0 5;gust 3 4 9;run 2 3;pact a b;plot b 2 2;";

    private final Calls c = new Calls();

    public static void main(String[] args) {
        EdgeCallTest test = new EdgeCallTest();
        test.newObject();
        test.newObjectHasNothing();
        test.feed();
        test.end();
        test.endHidesTheRest();
        test.bank();
        test.fault();
        test.cell();
        test.owner();
        test.gust();
        test.comes();
        test.faces();
        test.gains();
        test.blow();
        test.set();
        test.fell();
        test.oil();
        test.point();
        test.undoKeepsEight();
        test.undoOfWhatWasDone();
        test.undoneAsItWas();
        test.now();
        test.fence();
        test.more();
        test.has();
        test.rests();
        test.restsAnew();
        test.oiled();
        test.oiledAt();
        test.suit();
        test.worth();
        test.drawn();
        test.odds();
        test.richest();
        test.best();
        test.plan();
        test.judge();
        test.judgeLives();
        test.oneLineLived();
        test.judged();
        test.sentence();
        test.said();
        test.saidByJoints();
        test.image();
        test.restore();
        test.restoredAsKept();
        test.restoredTexts();
        test.restoredWithoutTexts();
        test.restoredYards();
        test.restoredShorterAndLonger();
        test.restoreLeaves();
        test.count();
        test.c.finish();
    }

    // ---- the tape ----

    private void newObject() {
        c.promise("1 An empty BANK; an empty tape");
        GaleBank x = new GaleBank();
        for (int what = 0; what <= 8; what++) {
            c.due("count " + what, x.count(what), 0);
        }
        for (int what = 0; what <= 7; what++) {
            c.due("now " + what, x.now(what), what == 6 ? -1 : 0);
        }
        for (int quarter = 0; quarter < 48; quarter++) {
            c.due("gust " + quarter, x.gust(quarter, 1), -1);
        }
        c.dueThrow("cell 0", () -> x.cell(0, 0));
        c.dueThrow("owner 0", () -> x.owner(0, 0));
        c.due("a tape of none is the same BANK", x.bank(), 0);
        c.due("all QUARTERS go by", x.blow(48), 48);
        c.due("all of that is undone", x.undo(), 0);
    }

    private void newObjectHasNothing() {
        c.promise("1 An empty BANK: nothing was done, told or kept");
        c.due("undo", new GaleBank().undo(), -1);
        c.due("fault", new GaleBank().fault(), 0);
        c.due("more", new GaleBank().more(), -1);
        c.due("oiledAt", new GaleBank().oiledAt(0), -1);
        c.due("judged", new GaleBank().judged(0), -1);
        c.due("said", new GaleBank().said(-1), -1);
        c.due("judge: no LINE is WRONG", new GaleBank().judge(1), -1);
        c.due("restore 0", new GaleBank().restore(0), false);
        c.due("restore 1", new GaleBank().restore(1), false);
        c.due("end", new GaleBank().end(0), true);
        c.due("end", new GaleBank().end(1), false);
        c.due("plan of an empty tape", new GaleBank().plan(), 0);
        c.due("sentence of an empty tape", new GaleBank().sentence(), -1);
        c.due("richest", new GaleBank().richest(), -1);
        GaleBank x = new GaleBank();
        c.due("a SENTENCE without a bank()", Calls.sentence(x, "faces"), 1);
        c.due("how many", x.said(-1), 0);
        c.due("a PLAN without a bank()", Calls.plan(x, "blow 47;blow 2;"), 2);
        c.due("it is lived", x.judge(1), -1);
        c.due("all QUARTERS are gone", x.now(0), 48);
        c.due("it is undone", x.undo(), 0);
        c.due("none is", x.undo(), -1);
        c.due("QUARTER 0 is next", x.now(0), 0);
    }

    private void feed() {
        c.promise("2 NONE, and none come, if it would have more than 940");
        GaleBank x = new GaleBank();
        for (int i = 1; i <= 46; i++) {
            x.feed(0x20202020, 0x20202020, 0x20202020, 0x20202020, 0x20202020);
        }
        c.due("to 940", x.feed(0x20202020, 0x20202020, 0x20202020, 0x20202020, 0x20202020), 940);
        c.due("to 960", x.feed(0, 0, 0, 0, 0), -1);
        c.due("none come", x.count(8), 940);
        x.end(921);
        c.due("to 941", x.feed(0, 0, 0, 0, 0), -1);
        c.due("none come", x.count(8), 921);
        x.end(900);
        c.due("its bytes are as they were", x.bank(), 0);

        c.promise("2 of each number the highest first");
        x.feed(0x72756e20, 0x31322033, 0x34353b20, 0x20202020, 0x20202020);
        c.due("run 12 345;", x.bank(), 1);
        c.due("EACH", x.count(5), 12);
        c.due("CASH", x.count(6), 345);
        for (int place = 0; place < 20; place++) {
            int[] fours = {0x20202020, 0x20202020, 0x20202020, 0x20202020, 0x20202020};
            fours[place / 4] ^= (0x20 ^ 0xe9) << 24 - place % 4 * 8;
            x.feed(fours[0], fours[1], fours[2], fours[3], fours[4]);
            c.due("a byte at " + place, x.bank(), -1 - place);
        }
    }

    private void end() {
        c.promise("3 false, if it has not so many, or n is below 0");
        GaleBank x = new GaleBank();
        c.due("0 of none", x.end(0), true);
        c.due("1 of none", x.end(1), false);
        x.feed(0, 0, 0, 0, 0);
        c.due("21 of 20", x.end(21), false);
        c.due("-1", x.end(-1), false);
        for (int n : WILD) {
            c.due("end " + n, x.end(n), false);
        }
        c.due("it is as it was", x.count(8), 20);
        c.due("20 of 20", x.end(20), true);
        c.due("19 of 20", x.end(19), true);
        c.due("20 of 19", x.end(20), false);
        c.due("0 of 19", x.end(0), true);
        c.due("none", x.count(8), 0);
        for (int i = 0; i < 47; i++) {
            x.feed(0, 0, 0, 0, 0);
        }
        c.due("941 of 940", x.end(941), false);
        c.due("940 of 940", x.end(940), true);
    }

    private void endHidesTheRest() {
        c.promise("3 The tape has its first n bytes alone");
        GaleBank x = new GaleBank();
        Calls.tape(x, Calls.bytes("run 1 23;#"));
        x.end(7);
        c.due("a NUMBER cut, no ; any more", x.bank(), -8);
        Calls.tape(x, Calls.bytes("runabc"));
        x.end(3);
        c.due("a WORD cut", x.bank(), -4);
        Calls.tape(x, Calls.bytes("run 1 23;#"));
        x.end(9);
        c.due("a # cut off", x.bank(), 1);
        Calls.tape(x, Calls.bytes("run 1 23;"));
        x.end(7);
        Calls.tape(x, Calls.bytes(";"));
        c.due("fed anew behind it", x.bank(), 1);
        c.due("CASH", x.count(6), 2);
        Calls.tape(x, Calls.bytes("blow 1;blow"));
        x.end(7);
        c.due("a LINE of a PLAN cut off", x.plan(), 1);
        Calls.tape(x, Calls.bytes("faces and"));
        x.end(5);
        c.due("a joint of a SENTENCE cut off", x.sentence(), 1);
        Calls.bank(x, "yard 4 4;owner a 0 3 50 1 9;gust 47 4 5;");
        x.blow(1);
        for (int junk : new int[] {0, 1, 8, 127, 128, 255}) {
            Calls.tape(x, Calls.bytes(0, junk, junk));
            x.end(1);
            c.due("what oiled() reads, ahead of " + junk, x.oiled(), 1);
            Calls.tape(x, Calls.bytes(47, 4, junk, junk));
            x.end(2);
            c.due("what worth() reads, ahead of " + junk, x.worth(0), 5);
        }
    }

    // ---- the three texts ----

    private void bank() {
        c.promise("4 how many LINES; -1 less the place of a FAULT: it stays");
        GaleBank x = Calls.of(BANK);
        x.blow(1);
        c.due("a FAULT at 0", Calls.bank(x, "#"), -1);
        c.due("a FAULT at 1", Calls.bank(x, " #"), -2);
        c.due("a FAULT at 900", Calls.bank(x, " ".repeat(901)), -901);
        c.due("a FAULT behind sound LINES", Calls.bank(x, "yard 2 2;tree 0 0;tree 0 0;"), -26);
        int[] told = {5, 4, 2, 2, 2, 2, 3};
        for (int what = 0; what < told.length; what++) {
            c.due("it stays: count " + what, x.count(what), told[what]);
        }
        c.due("it stays: QUARTER", x.now(0), 1);
        c.due("it stays: a tree", x.cell(20, 0), 2);
        c.due("it stays: undo", x.undo(), 0);
        c.due("the tape is empty", x.count(8), 0);
        c.due("no LINES", Calls.bank(x, ""), 0);
        c.due("then no OWNERS", x.count(2), 0);
        c.due("1 LINE", Calls.bank(x, "run 0 0;"), 1);
    }

    private void fault() {
        c.promise("5 of the latest bank(), plan() or sentence(); 0 without one and ahead of any");
        GaleBank x = new GaleBank();
        c.due("ahead of any", x.fault(), 0);
        Calls.bank(x, "yard 2 1;");
        c.due("of bank()", x.fault(), 2);
        c.due("told again", x.fault(), 2);
        Calls.plan(x, "oil a;");
        c.due("of plan()", x.fault(), 3);
        Calls.sentence(x, "x");
        c.due("of sentence()", x.fault(), 1);
        Calls.plan(x, "blow 1;".repeat(31));
        c.due("of plan()", x.fault(), 4);
        x.judge(0);
        x.oiled();
        x.worth(0);
        x.blow(1);
        x.undo();
        x.image(0);
        x.restore(0);
        c.due("other calls leave it", x.fault(), 4);
        Calls.sentence(x, "faces");
        c.due("without one", x.fault(), 0);
        Calls.bank(x, "#");
        Calls.plan(x, "");
        c.due("without one", x.fault(), 0);
        Calls.plan(x, "#");
        Calls.bank(x, "");
        c.due("without one", x.fault(), 0);
    }

    // ---- what is so ----

    private void cell() {
        c.promise("6 NoSuchElementException: no such ones");
        GaleBank x = Calls.of(BANK);
        for (int at = 0; at <= 99; at++) {
            int place = at;
            if (at % 10 < 5 && at / 10 < 4) {
                for (int what = 0; what <= 2; what++) {
                    c.due("cell " + at + " " + what, x.cell(at, what) >= -1, true);
                }
                c.dueThrow("cell " + at + " 3", () -> x.cell(place, 3));
                c.dueThrow("cell " + at + " -1", () -> x.cell(place, -1));
            } else {
                c.dueThrow("cell " + at, () -> x.cell(place, 0));
            }
        }
        c.dueThrow("cell -1", () -> x.cell(-1, 0));
        c.dueThrow("cell 100", () -> x.cell(100, 0));
        for (int n : WILD) {
            c.dueThrow("cell " + n, () -> x.cell(n, 0));
            c.dueThrow("cell 0 " + n, () -> x.cell(0, n));
        }
        c.promise("6 0 nothing, 1 a vane, 2 a tree, 3 a fence; NONE: none, a fence; 0: none");
        int[][] want = {{22, 0, -1, 0}, {30, 1, 0, 0}, {34, 1, 1, 0}, {20, 2, 0, 0}, {13, 2, 1, 0}, {4, 3, -1, 0}, {11, 0, -1, 2}};
        for (int[] row : want) {
            for (int what = 0; what <= 2; what++) {
                c.due("cell " + row[0] + " " + what, x.cell(row[0], what), row[1 + what]);
            }
        }
    }

    private void owner() {
        c.promise("7 NoSuchElementException: no such ones");
        GaleBank x = Calls.of(BANK);
        c.dueThrow("owner -1", () -> x.owner(-1, 0));
        c.dueThrow("owner 2", () -> x.owner(2, 0));
        c.dueThrow("owner 7", () -> x.owner(7, 0));
        c.dueThrow("owner 8", () -> x.owner(8, 0));
        c.dueThrow("owner 0 -1", () -> x.owner(0, -1));
        c.dueThrow("owner 0 11", () -> x.owner(0, 11));
        for (int n : WILD) {
            c.dueThrow("owner " + n, () -> x.owner(n, 0));
            c.dueThrow("owner 0 " + n, () -> x.owner(0, n));
        }
        c.promise("7 the other of its pact (NONE), its plot's CELL (NONE), stuck (1, 0)");
        c.due("a's pact", x.owner(0, 7), 1);
        c.due("b's pact", x.owner(1, 7), -1);
        c.due("a's plot", x.owner(0, 8), -1);
        c.due("b's plot", x.owner(1, 8), 22);
        c.due("free", x.owner(0, 6), 0);
        x.point(0, 0);
        c.due("stuck", x.owner(0, 6), 1);
        x.set(22);
        c.due("b's plot, a fence on it", x.owner(1, 8), 22);
    }

    private void gust() {
        c.promise("8 NONE: there is none, no such ones");
        GaleBank x = Calls.of("gust 0 7 1;gust 47 0 9;");
        c.due("0 DIR", x.gust(0, 0), 7);
        c.due("0 FORCE", x.gust(0, 1), 1);
        c.due("47 DIR", x.gust(47, 0), 0);
        c.due("47 FORCE", x.gust(47, 1), 9);
        for (int quarter = 1; quarter < 47; quarter++) {
            c.due("none in " + quarter, x.gust(quarter, 0), -1);
            c.due("none in " + quarter, x.gust(quarter, 1), -1);
        }
        c.due("QUARTER -1", x.gust(-1, 0), -1);
        c.due("QUARTER 48", x.gust(48, 0), -1);
        c.due("what -1", x.gust(0, -1), -1);
        c.due("what 2", x.gust(0, 2), -1);
        for (int n : WILD) {
            c.due("QUARTER " + n, x.gust(n, 1), -1);
            c.due("what " + n, x.gust(0, n), -1);
        }
    }

    // ---- one gust ----

    private void comes() {
        c.promise("9 NONE: no such ones (a CELL, DIR, FORCE 1 to 9, 0 DIR, 1 force)");
        GaleBank x = Calls.of(BANK);
        c.due("the first CELL", x.comes(0, 0, 1, 0), 0);
        c.due("the last CELL", x.comes(34, 7, 9, 0), 7);
        c.due("its force", x.comes(34, 7, 9, 1), 9);
        int[] cells = {-1, 5, 9, 35, 40, 99, 100};
        for (int at : cells) {
            c.due("CELL " + at, x.comes(at, 0, 1, 1), -1);
        }
        c.due("DIR -1", x.comes(0, -1, 1, 1), -1);
        c.due("DIR 8", x.comes(0, 8, 1, 1), -1);
        c.due("FORCE 0", x.comes(0, 0, 0, 1), -1);
        c.due("FORCE 1", x.comes(0, 0, 1, 1), 1);
        c.due("FORCE 9", x.comes(0, 0, 9, 1), 9);
        c.due("FORCE 10", x.comes(0, 0, 10, 1), -1);
        c.due("what -1", x.comes(0, 0, 1, -1), -1);
        c.due("what 2", x.comes(0, 0, 1, 2), -1);
        for (int n : WILD) {
            c.due("CELL " + n, x.comes(n, 0, 1, 1), -1);
            c.due("DIR " + n, x.comes(0, n, 1, 1), -1);
            c.due("FORCE " + n, x.comes(0, 0, n, 1), -1);
            c.due("what " + n, x.comes(0, 0, 1, n), -1);
        }
    }

    private void faces() {
        c.promise("10 as bits; NONE: no such one");
        GaleBank none = new GaleBank();
        GaleBank x = Calls.of(eight(""));
        for (int dir = -1; dir <= 8; dir++) {
            for (int force = 0; force <= 10; force++) {
                boolean told = dir >= 0 && dir <= 7 && force >= 1 && force <= 9;
                c.due("of no OWNERS " + dir + " " + force, none.faces(dir, force), told ? 0 : -1);
                c.due("of eight " + dir + " " + force, x.faces(dir, force), told ? dir == 0 ? 255 : 0 : -1);
            }
        }
        for (int n : WILD) {
            c.due("DIR " + n, x.faces(n, 1), -1);
            c.due("FORCE " + n, x.faces(0, n), -1);
        }
    }

    /** Eight owners whose vanes, with STICK 9, point north, and some lines behind them. */
    private static String eight(String behind) {
        StringBuilder b = new StringBuilder("yard 8 10;");
        for (int o = 0; o < 8; o++) {
            b.append("owner ").append((char) ('a' + o)).append(' ').append(o).append(" 9 9 1 9;");
        }
        return b.append(behind).toString();
    }

    private void gains() {
        c.promise("11 below 0: loses; NONE - 1000: no such ones");
        GaleBank x = Calls.of(eight("vane h 4;"));
        c.due("the first of like ones", x.gains(0, 0, 1), 1);
        c.due("another", x.gains(6, 0, 1), 0);
        c.due("h loses", x.gains(7, 0, 9), -9);
        c.due("h loses no more than it has", Calls.of("yard 2 2;owner a 0 0 3 1 9;").gains(0, 1, 9), -3);
        c.due("OWNER -1", x.gains(-1, 0, 1), -1001);
        c.due("OWNER 8", x.gains(8, 0, 1), -1001);
        c.due("DIR -1", x.gains(0, -1, 1), -1001);
        c.due("DIR 8", x.gains(0, 8, 1), -1001);
        c.due("FORCE 0", x.gains(0, 0, 0), -1001);
        c.due("FORCE 10", x.gains(0, 0, 10), -1001);
        for (int n : WILD) {
            c.due("OWNER " + n, x.gains(n, 0, 1), -1001);
            c.due("DIR " + n, x.gains(0, n, 1), -1001);
            c.due("FORCE " + n, x.gains(0, 0, n), -1001);
        }
        c.due("no OWNER", new GaleBank().gains(0, 0, 1), -1001);
    }

    // ---- acts ----

    private void blow() {
        c.promise("12 n (1 to 48); 47 is the last; 0: nothing is done; NONE: not as told");
        GaleBank x = Calls.of(BANK);
        c.due("0", x.blow(0), -1);
        c.due("-1", x.blow(-1), -1);
        c.due("49", x.blow(49), -1);
        for (int n : WILD) {
            c.due("blow " + n, x.blow(n), -1);
        }
        c.due("none went by", x.now(0), 0);
        c.due("nothing was done", x.undo(), -1);
        c.due("1", x.blow(1), 1);
        c.due("48, of which 47 are left", x.blow(48), 47);
        c.due("48", x.now(0), 48);
        c.due("1, none left", x.blow(1), 0);
        c.due("49, none left", x.blow(49), -1);
        c.due("nothing was done by the last ones", x.undo(), 1);
        c.due("QUARTER", x.now(0), 1);
        GaleBank y = Calls.of(BANK);
        c.due("48 at once", y.blow(48), 48);
    }

    private static String fences(int n) {
        StringBuilder b = new StringBuilder("yard 10 10;owner a 0 0 5 1 1;tree 1 0;");
        for (int i = 0; i < n; i++) {
            b.append("fence ").append(i % 10).append(' ').append(5 + i / 10).append(';');
        }
        return b.toString();
    }

    private void set() {
        c.promise("13 0, or WRONG; NONE: no such CELL");
        GaleBank x = Calls.of(fences(11));
        c.due("CELL -1", x.set(-1), -1);
        c.due("CELL 100", x.set(100), -1);
        c.due("CELL 5 of a narrow yard", Calls.of(BANK).set(5), -1);
        c.due("CELL 40 of a low yard", Calls.of(BANK).set(40), -1);
        for (int n : WILD) {
            c.due("CELL " + n, x.set(n), -1);
        }
        c.due("a vane", x.set(0), 1);
        c.due("a tree", x.set(1), 1);
        c.due("a fence", x.set(50), 1);
        c.due("nothing was done", x.undo(), -1);
        c.due("the 12th", x.set(99), 0);
        c.due("a 13th", x.set(98), 2);
        c.due("a 13th on a thing", x.set(99), 1);
        c.due("no such CELL, with 12", x.set(100), -1);
        c.due("fences", x.now(4), 12);
        c.due("the 12th is undone", x.undo(), 0);
        c.due("11", x.now(4), 11);
        c.due("its CELL", x.cell(99, 0), 0);
        c.due("on an eddy and a plot", Calls.of("yard 2 2;owner a 0 0 1 1 1;plot a 1 1;eddy 1 1 1;").set(11), 0);
    }

    private void fell() {
        c.promise("14 0, or WRONG");
        StringBuilder b = new StringBuilder("yard 10 10;");
        for (int i = 0; i < 12; i++) {
            b.append("tree ").append(i % 10).append(' ').append(i / 10).append(';');
        }
        GaleBank x = Calls.of(b.toString());
        c.due("tree -1", x.fell(-1), 3);
        c.due("tree 12", x.fell(12), 3);
        c.due("tree 32", x.fell(32), 3);
        for (int n : WILD) {
            c.due("tree " + n, x.fell(n), 3);
        }
        c.due("nothing was done", x.undo(), -1);
        c.due("tree 0", x.fell(0), 0);
        c.due("tree 11", x.fell(11), 0);
        c.due("tree 11 again", x.fell(11), 3);
        c.due("ten stand", x.now(5), 10);
        c.due("the others keep their numbers", x.cell(1, 1), 1);
        x.undo();
        c.due("it stands again", x.cell(11, 1), 11);
        c.due("tree 11 again", x.fell(11), 0);
        c.due("no trees told", new GaleBank().fell(0), 3);
        c.due("behind QUARTER 47", x.blow(48), 48);
        c.due("tree 1", x.fell(1), 0);
    }

    private void oil() {
        c.promise("15 false: no such OWNER");
        GaleBank x = Calls.of(BANK);
        c.due("-1", x.oil(-1), false);
        c.due("2", x.oil(2), false);
        c.due("8", x.oil(8), false);
        for (int n : WILD) {
            c.due("oil " + n, x.oil(n), false);
        }
        c.due("nothing was done", x.undo(), -1);
        c.due("0", x.oil(0), true);
        c.due("1", x.oil(1), true);
        c.due("oiled again: done all the same", x.oil(1), true);
        c.due("undo", x.undo(), 2);
        c.due("no OWNERS", new GaleBank().oil(0), false);
    }

    private void point() {
        c.promise("16 false: no such ones");
        GaleBank x = Calls.of(BANK);
        c.due("OWNER -1", x.point(-1, 0), false);
        c.due("OWNER 2", x.point(2, 0), false);
        c.due("DIR -1", x.point(0, -1), false);
        c.due("DIR 8", x.point(0, 8), false);
        for (int n : WILD) {
            c.due("OWNER " + n, x.point(n, 0), false);
            c.due("DIR " + n, x.point(0, n), false);
        }
        c.due("nothing was done", x.undo(), -1);
        c.due("it is free", x.owner(0, 6), 0);
        c.due("DIR 0, where it points", x.point(0, 0), true);
        c.due("stuck", x.owner(0, 6), 1);
        c.due("DIR 7", x.point(1, 7), true);
        c.due("it points", x.owner(1, 5), 7);
        c.due("no OWNERS", new GaleBank().point(0, 0), false);
    }

    private void undoKeepsEight() {
        c.promise("17 how many more can be (8 at most are kept); NONE: none is");
        c.due("none is", Calls.of(BANK).undo(), -1);
        for (int done = 1; done <= 20; done++) {
            GaleBank x = Calls.of(BANK);
            for (int i = 0; i < done; i++) {
                x.point(0, i % 8);
            }
            int kept = Math.min(done, 8);
            for (int i = 0; i < kept; i++) {
                c.due("undo " + i + " of " + done, x.undo(), kept - 1 - i);
                int before = done - 2 - i;
                if (before >= 0) {
                    c.due("the one before it", x.owner(0, 5), before % 8);
                }
            }
            c.due("none is", x.undo(), -1);
            c.due("none is, again", x.undo(), -1);
            if (done <= 8) {
                c.due("all is undone", x.owner(0, 6), 0);
            }
        }
    }

    private void undoOfWhatWasDone() {
        c.promise("17 The latest .. that was done is undone");
        GaleBank x = Calls.of(BANK);
        x.blow(1);
        x.blow(0);
        x.blow(49);
        x.set(30);
        x.set(-1);
        x.fell(2);
        x.oil(2);
        x.point(0, 8);
        Calls.plan(x, "oil a;blow 3;");
        x.judge(0);
        x.judge(2);
        Calls.plan(x, "fell 9;oil a;");
        c.due("the first LINE is WRONG", x.judge(1), 0);
        Calls.plan(x, "");
        c.due("no LINES", x.judge(1), -1);
        x.faces(0, 1);
        x.fence(0);
        x.rests(-1);
        x.image(1);
        c.due("blow(1) is the latest done", x.undo(), 0);
        c.due("QUARTER", x.now(0), 0);
        c.due("none is", x.undo(), -1);
        Calls.plan(x, "oil a;oil b;blow 2;fell 9;");
        c.due("a PLAN lived as far as it is not WRONG", x.judge(1), 3);
        c.due("is undone as one", x.undo(), 0);
        c.due("QUARTER", x.now(0), 0);
        c.due("STICK", x.owner(0, 4), 3);
        x.blow(48);
        x.blow(48);
        c.due("a blow() that answered 0 was nothing", x.undo(), 0);
    }

    private void undoneAsItWas() {
        c.promise("17 is undone: all is as it was");
        GaleBank x = Calls.of("yard 4 3;owner a 0 2 50 2 9;owner b 3 2 40 1 0;tree 1 0;vane b 5;gust 1 0 1;gust 2 5 9;gust 3 2 9;run 2 3;pact a b;");
        String[] before = new String[4];
        for (int i = 0; i < 4; i++) {
            before[i] = owners(x);
            x.blow(1);
        }
        c.due("b lost and had", x.owner(1, 9) > 0 && x.owner(1, 10) > 0, true);
        for (int i = 3; i >= 0; i--) {
            c.due("undo", x.undo(), i);
            c.same("as it was ahead of " + i, owners(x), before[i]);
        }
        Calls.plan(x, "blow 4;point a 3;fell 0;set 0 0;");
        x.judge(1);
        String lived = owners(x);
        x.undo();
        c.same("a PLAN lived", owners(x), before[0]);
        x.blow(4);
        x.point(0, 3);
        x.fell(0);
        x.set(0);
        c.same("its acts by calls", owners(x), lived);
    }

    /** What is so of all owners, and of all. */
    private static String owners(GaleBank x) {
        StringBuilder b = new StringBuilder();
        for (int what = 0; what < 8; what++) {
            b.append(x.now(what)).append(' ');
        }
        for (int o = 0; o < x.count(2); o++) {
            for (int what = 0; what < 11; what++) {
                b.append(x.owner(o, what)).append(' ');
            }
        }
        return b.toString();
    }

    private void now() {
        c.promise("18 48: none; NONE: none yet; NONE for another what");
        GaleBank x = Calls.of(BANK);
        c.due("no gust yet", x.now(6), -1);
        c.due("QUARTER 0", x.now(0), 0);
        c.due("-1", x.now(-1), -1);
        c.due("8", x.now(8), -1);
        for (int n : WILD) {
            c.due("now " + n, x.now(n), -1);
        }
        x.blow(1);
        c.due("DIR 0", x.now(6), 0);
        x.blow(2);
        c.due("of the latest, in a calm", x.now(6), 0);
        x.blow(1);
        c.due("DIR 4", x.now(6), 4);
        x.blow(43);
        c.due("47 is next", x.now(0), 47);
        x.blow(1);
        c.due("none is next", x.now(0), 48);
        x.faces(7, 9);
        x.gains(0, 7, 9);
        x.drawn(0, 48, 1);
        c.due("gusts that might come are none", x.now(6), 4);
    }

    // ---- what would be ----

    private static final String SHADE = "yard 10 10;owner a 0 0 50 1 0;owner b 5 5 50 1 0;gust 0 2 3;";

    private void fence() {
        c.promise("19 the CELL; NONE: none, no such one, there are 12");
        GaleBank x = Calls.of(SHADE + "fence 0 7;fence 1 7;fence 2 7;fence 3 7;fence 4 7;fence 5 7;fence 6 7;fence 7 7;fence 8 7;fence 9 7;");
        c.due("10 fences", x.fence(0), 56);
        x.set(80);
        c.due("11 fences", x.fence(0), 56);
        x.set(81);
        c.due("12 fences", x.fence(0), -1);
        x.undo();
        c.due("11 fences", x.fence(1), 1);
        c.due("OWNER -1", x.fence(-1), -1);
        c.due("OWNER 2", x.fence(2), -1);
        for (int n : WILD) {
            c.due("OWNER " + n, x.fence(n), -1);
        }
        x.blow(48);
        c.due("none behind QUARTER 47", x.fence(0), -1);
        c.due("no OWNERS", new GaleBank().fence(0), -1);
        GaleBank corner = Calls.of("yard 10 10;owner a 0 0 50 1 0;owner b 8 8 50 1 0;vane a 3;vane b 3;gust 0 3 3;");
        c.due("the last CELL", corner.fence(0), 99);
        GaleBank first = Calls.of("yard 10 10;owner a 9 9 50 1 0;owner b 1 1 50 1 0;vane a 7;vane b 7;gust 0 7 3;");
        c.due("CELL 0", first.fence(0), 0);
        c.due("it is one that more() tells of", first.more(), 3);
    }

    private void more() {
        c.promise("20 by the latest fence() that was a CELL; NONE ahead of any");
        GaleBank x = Calls.of(SHADE);
        c.due("ahead of any", x.more(), -1);
        x.fence(2);
        c.due("ahead of any that was a CELL", x.more(), -1);
        Calls.bank(x, "");
        x.fence(0);
        c.due("ahead of any that was a CELL", x.more(), -1);
        Calls.bank(x, SHADE + "gust 1 2 3;");
        x.fence(0);
        c.due("more", x.more(), 6);
        x.fence(-1);
        x.blow(2);
        x.fence(0);
        c.due("it is told still", x.more(), 6);
        Calls.bank(x, SHADE);
        c.due("it is told still", x.more(), 6);
        x.fence(0);
        c.due("the latest", x.more(), 3);
    }

    private void has() {
        c.promise("21 NONE: no such ones (some have no plot, or not one without a thing)");
        StringBuilder plots = new StringBuilder();
        for (int o = 0; o < 8; o++) {
            plots.append("plot ").append((char) ('a' + o)).append(' ').append(o).append(" 0;");
        }
        GaleBank x = Calls.of(eight(plots.toString()));
        c.due("no PLOTS", x.has(0, 0), 9);
        c.due("all PLOTS", x.has(7, 255), 9);
        c.due("a ninth's", x.has(0, 256), -1);
        c.due("all and a ninth's", x.has(0, 511), -1);
        c.due("-1", x.has(0, -1), -1);
        c.due("the highest bit", x.has(0, Integer.MIN_VALUE), -1);
        c.due("the highest bit and the first", x.has(0, Integer.MIN_VALUE + 1), -1);
        c.due("OWNER -1", x.has(-1, 0), -1);
        c.due("OWNER 8", x.has(8, 0), -1);
        for (int n : WILD) {
            c.due("OWNER " + n, x.has(n, 0), -1);
        }
        x.set(7);
        c.due("h's plot has a fence", x.has(0, 128), -1);
        c.due("all but h's", x.has(0, 127), 9);
        c.due("no OWNERS", new GaleBank().has(0, 0), -1);
        GaleBank two = Calls.of(SHADE + "plot b 1 0;");
        c.due("a has no plot", two.has(0, 1), -1);
        c.due("b has", two.has(0, 2), 47);
    }

    private void rests() {
        c.promise("22 how many (k NONE), or the k-th (rising); NONE: none such");
        StringBuilder plots = new StringBuilder();
        for (int o = 0; o < 8; o++) {
            plots.append("plot ").append((char) ('a' + o)).append(' ').append(o).append(" 0;");
        }
        GaleBank all = Calls.of(eight(plots.toString()));
        c.due("how many", all.rests(-1), 256);
        for (int k = 0; k < 256; k++) {
            c.due("rising", all.rests(k), k);
        }
        c.due("behind the last", all.rests(256), -1);
        c.due("-2", all.rests(-2), -1);
        for (int n : WILD) {
            c.due("rests " + n, all.rests(n), -1);
        }
        GaleBank none = new GaleBank();
        c.due("no OWNERS: the empty set", none.rests(-1), 1);
        c.due("the empty set", none.rests(0), 0);
        c.due("no other", none.rests(1), -1);
        GaleBank self = Calls.of("yard 10 10;owner a 0 9 50 1 9;owner b 9 9 50 1 9;plot a 0 8;plot b 9 8;gust 0 0 3;");
        c.due("one who shades itself loses", self.rests(-1), 1);
        c.due("the empty set", self.rests(0), 0);
        // a shades b for its gain, b shades itself the more to stick and face the second gust, and so on round.
        GaleBank round = Calls.of("yard 5 5;owner a 2 2 50 1 2;owner b 4 0 50 1 3;plot a 4 1;plot b 4 3;gust 0 4 7;gust 1 6 5;");
        int[] ofA = {50, 62, 62, 57};
        for (int set = 0; set < 4; set++) {
            c.due("a by " + set, round.has(0, set), ofA[set]);
            c.due("b by " + set, round.has(1, set), 100 - ofA[set]);
        }
        c.due("none is at REST", round.rests(-1), 0);
        c.due("the first of none", round.rests(0), -1);
    }

    private void restsAnew() {
        c.promise("22 PLOTS at REST, of what is so then");
        String shades = SHADE + "plot a 6 5;plot b 1 0;";
        GaleBank x = Calls.of(shades);
        c.due("of three", x.rests(-1), 3);
        c.due("the first", x.rests(0), 1);
        x.blow(1);
        c.due("behind blow() all four", x.rests(-1), 4);
        x.undo();
        c.due("behind undo() three", x.rests(-1), 3);
        x.set(56);
        c.due("behind set() on a's", x.rests(-1), 2);
        c.due("the last", x.rests(1), 2);
        x.undo();
        c.due("behind undo() three", x.rests(-1), 3);
        x.image(0);
        Calls.plan(x, "blow 1;");
        x.judge(0);
        c.due("behind a PLAN not lived three", x.rests(-1), 3);
        x.judge(1);
        c.due("behind a PLAN lived four", x.rests(-1), 4);
        x.restore(0);
        c.due("behind restore() three", x.rests(-1), 3);
        x.point(1, 6);
        c.due("behind point(): b loses anyhow", x.rests(-1), 4);
        x.undo();
        c.due("behind undo() three", x.rests(-1), 3);
        Calls.bank(x, shades.replace("50 1 0;gust", "50 1 9;gust"));
        c.due("b does not turn: it loses anyhow", x.rests(-1), 4);
        x.oil(1);
        c.due("behind oil() it turns", x.rests(-1), 3);
        x.undo();
        c.due("behind undo() four", x.rests(-1), 4);
        Calls.bank(x, shades);
        c.due("behind bank() three", x.rests(-1), 3);
        Calls.bank(x, "#");
        c.due("behind a bank() with a FAULT three", x.rests(-1), 3);
        Calls.bank(x, "yard 10 10;owner a 0 0 1 1 0;owner b 5 5 1 1 0;");
        c.due("poorer ones without plots: the empty set", x.rests(-1), 1);
        c.due("the empty set", x.rests(0), 0);
        GaleBank tree = Calls.of(shades.replace("plot a 6 5;", "plot a 0 9;tree 6 5;tree 0 9;"));
        // By the tree there comes 1 to b, who does not face it and loses by any set.
        c.due("a tree on a's", tree.rests(-1), 2);
        tree.fell(1);
        c.due("behind fell() twice as many", tree.rests(-1), 4);
    }

    private int oiled(GaleBank x, int... dirs) {
        Calls.tape(x, Calls.bytes(dirs));
        return x.oiled();
    }

    private void oiled() {
        c.promise("23 a byte for each OWNER: where its vane points now, 0 to 7; NONE: not as told");
        GaleBank x = Calls.of("yard 4 4;owner a 0 3 20 1 9;owner b 3 3 20 1 9;vane b 7;");
        x.blow(1);
        c.due("two bytes", oiled(x, 0, 7), 2);
        c.due("none", oiled(x), -1);
        c.due("one", oiled(x, 0), -1);
        c.due("three", oiled(x, 0, 7, 0), -1);
        c.due("8", oiled(x, 0, 8), -1);
        c.due("8", oiled(x, 8, 7), -1);
        c.due("127", oiled(x, 127, 7), -1);
        c.due("128", oiled(x, 128, 7), -1);
        c.due("255", oiled(x, 0, 255), -1);
        c.due("a digit", oiled(x, '0', '7'), -1);
        for (int i = 0; i < 47; i++) {
            x.feed(0, 0, 0, 0, 0);
        }
        c.due("a full tape", x.oiled(), -1);
        c.due("the tape is empty then", x.count(8), 0);
        GaleBank eight = Calls.of(eight(""));
        eight.blow(48);
        c.due("eight OWNERS, 48 QUARTERS", oiled(eight, 0, 0, 0, 0, 0, 0, 0, 0), 384);
        c.due("the last pair", eight.oiledAt(383), 747);
        c.due("behind it", eight.oiledAt(384), -1);
        c.due("no OWNERS", oiled(new GaleBank()), -1);
        c.due("no OWNERS, a byte", oiled(new GaleBank(), 0), -1);
    }

    private void oiledAt() {
        c.promise("24 of the latest oiled() that was not NONE; NONE: none such, ahead of any");
        GaleBank x = Calls.of("yard 4 4;owner a 0 3 20 1 9;owner b 3 3 20 1 9;vane b 7;");
        c.due("ahead of any", x.oiledAt(0), -1);
        oiled(x);
        c.due("ahead of any that was not NONE", x.oiledAt(0), -1);
        x.blow(2);
        oiled(x, 0, 7);
        int[] pairs = {0, 1, 100, 101};
        for (int k = 0; k < pairs.length; k++) {
            c.due("by OWNER, then QUARTER", x.oiledAt(k), pairs[k]);
        }
        c.due("-1", x.oiledAt(-1), -1);
        c.due("4", x.oiledAt(4), -1);
        for (int n : WILD) {
            c.due("oiledAt " + n, x.oiledAt(n), -1);
        }
        oiled(x, 0);
        oiled(x, 0, 8);
        c.due("one that was NONE leaves it", x.oiledAt(3), 101);
        c.due("none", oiled(x, 1, 1), 0);
        c.due("one of no pairs is the latest", x.oiledAt(0), -1);
    }

    private void suit() {
        c.promise("25 NONE - 10000: no such ones, a tree that was felled");
        GaleBank x = Calls.of(BANK);
        c.due("OWNER 0, tree 0", x.suit(0, 0) > -10001, true);
        c.due("OWNER 1, tree 1", x.suit(1, 1), 0);
        c.due("OWNER -1", x.suit(-1, 0), -10001);
        c.due("OWNER 2", x.suit(2, 0), -10001);
        c.due("tree -1", x.suit(0, -1), -10001);
        c.due("tree 2", x.suit(0, 2), -10001);
        c.due("tree 12", x.suit(0, 12), -10001);
        c.due("tree 32", x.suit(0, 32), -10001);
        for (int n : WILD) {
            c.due("OWNER " + n, x.suit(n, 0), -10001);
            c.due("tree " + n, x.suit(0, n), -10001);
        }
        x.fell(1);
        c.due("a felled tree", x.suit(0, 1), -10001);
        x.set(13);
        c.due("a felled tree, a fence there", x.suit(0, 1), -10001);
        x.undo();
        x.undo();
        c.due("it stands again", x.suit(1, 1), 0);
    }

    private int worth(GaleBank x, int o, int... pairs) {
        Calls.tape(x, Calls.bytes(pairs));
        return x.worth(o);
    }

    private void worth() {
        c.promise("26 pairs of bytes: a QUARTER, rising, and a DIR; 1 to 24; NONE - 10000: not as told");
        GaleBank x = Calls.of("yard 4 4;owner a 0 3 50 1 9;gust 0 4 3;gust 47 4 5;");
        int[] many = new int[50];
        for (int i = 0; i < 25; i++) {
            many[2 * i] = 23 + i;
            many[2 * i + 1] = 7;
        }
        many[49] = 4;
        c.due("none", worth(x, 0), -10001);
        c.due("half a pair", worth(x, 0, 0), -10001);
        c.due("one pair", worth(x, 0, 0, 4), 8);
        c.due("a pair and a half", worth(x, 0, 0, 4, 47), -10001);
        c.due("24 pairs", worth(x, 0, Arrays.copyOfRange(many, 2, 50)), 5);
        c.due("24 and a half", worth(x, 0, Arrays.copyOf(many, 49)), -10001);
        c.due("25 pairs", worth(x, 0, many), -10001);
        c.due("QUARTER 47", worth(x, 0, 47, 4), 5);
        c.due("QUARTER 48", worth(x, 0, 48, 4), -10001);
        c.due("QUARTER 128", worth(x, 0, 128, 4), -10001);
        c.due("QUARTER 255", worth(x, 0, 255, 4), -10001);
        c.due("DIR 7", worth(x, 0, 46, 7), 0);
        c.due("DIR 8", worth(x, 0, 46, 8), -10001);
        c.due("DIR 255", worth(x, 0, 46, 255), -10001);
        c.due("rising by one", worth(x, 0, 46, 0, 47, 4), 5);
        c.due("like", worth(x, 0, 47, 4, 47, 4), -10001);
        c.due("falling", worth(x, 0, 47, 4, 46, 4), -10001);
        c.due("OWNER -1", worth(x, -1, 0, 4), -10001);
        c.due("OWNER 1", worth(x, 1, 0, 4), -10001);
        for (int n : WILD) {
            c.due("OWNER " + n, worth(x, n, 0, 4), -10001);
            c.due("the tape is empty then", x.count(8), 0);
        }
        for (int i = 0; i < 47; i++) {
            x.feed(0, 0, 0, 0, 0);
        }
        c.due("a full tape", x.worth(0), -10001);
        c.due("the tape is empty then", x.count(8), 0);
    }

    private void drawn() {
        c.promise("27 n (1 to 48); NONE: not as told");
        GaleBank x = Calls.of(BANK);
        c.due("n 0", x.drawn(0, 0, 1), -1);
        c.due("n -1", x.drawn(0, -1, 1), -1);
        c.due("n 1", x.drawn(0, 1, 1) >= 0, true);
        c.due("n 48", x.drawn(0, 48, 1) >= 0, true);
        c.due("n 49", x.drawn(0, 49, 1), -1);
        c.due("OWNER -1", x.drawn(-1, 1, 1), -1);
        c.due("OWNER 2", x.drawn(2, 1, 1), -1);
        for (int n : WILD) {
            c.due("OWNER " + n, x.drawn(n, 1, 1), -1);
            c.due("n " + n, x.drawn(0, n, 1), -1);
            c.due("any seed is told", x.drawn(0, 48, n) >= 0, true);
        }
        c.promise("27 from now on (any QUARTER's gust counting nothing)");
        GaleBank still = Calls.of("yard 4 4;owner a 0 3 500 1 9;gust 0 4 9;gust 1 4 9;");
        GaleBank bare = Calls.of("yard 4 4;owner a 0 3 500 1 9;");
        for (int n = 1; n <= 48; n++) {
            c.due("told gusts count nothing", still.drawn(0, n, 7), bare.drawn(0, n, 7));
        }
        still.blow(1);
        c.due("from now on", still.drawn(0, 48, 7), bare.drawn(0, 48, 7) - 9);
        bare.blow(48);
        still.undo();
        c.due("behind QUARTER 47", bare.drawn(0, 48, 7), still.drawn(0, 48, 7));
    }

    private void odds() {
        c.promise("28 n (1 to 100) seeds x, x and 1, ..; less than now; NONE: not as told");
        GaleBank x = Calls.of(BANK);
        c.due("n 0", x.odds(0, 0, 1), -1);
        c.due("n -1", x.odds(0, -1, 1), -1);
        c.due("n 101", x.odds(0, 101, 1), -1);
        c.due("OWNER -1", x.odds(-1, 1, 1), -1);
        c.due("OWNER 2", x.odds(2, 1, 1), -1);
        for (int n : WILD) {
            c.due("OWNER " + n, x.odds(n, 1, 1), -1);
            c.due("n " + n, x.odds(0, n, 1), -1);
        }
        int[] seeds = {0, -50, Integer.MAX_VALUE - 50, Integer.MIN_VALUE};
        for (int seed : seeds) {
            GaleBank y = Calls.of(BANK);
            int less = 0;
            for (int i = 0; i < 100; i++) {
                int has = y.drawn(1, 12, seed + i);
                c.due("one seed " + (seed + i), y.odds(1, 1, seed + i), has < 40 ? 1 : 0);
                less += has < 40 ? 1 : 0;
            }
            c.due("a hundred from " + seed, y.odds(1, 100, seed), less);
        }
        GaleBank same = Calls.of("yard 2 2;owner a 0 0 0 1 0;");
        c.due("as much is not less", same.odds(0, 100, 1), 0);
        GaleBank later = Calls.of("yard 4 4;owner a 0 3 9 1 9;gust 0 4 9;");
        c.due("it would lose", later.odds(0, 100, 1) > 0, true);
        later.blow(1);
        c.due("than now, not than told", later.odds(0, 100, 1), 0);
    }

    private void richest() {
        c.promise("29 of like ones the first; NONE: none");
        c.due("none", new GaleBank().richest(), -1);
        c.due("all alike", Calls.of(eight("")).richest(), 0);
        c.due("the only one, without gold", Calls.of("yard 2 2;owner a 0 0 0 1 1;").richest(), 0);
        GaleBank x = Calls.of("yard 4 4;owner a 0 0 5 1 9;owner b 1 0 6 1 9;owner d 2 0 6 1 9;owner e 3 0 7 1 9;vane e 1;gust 47 0 1;");
        // e's ounce goes to a, and then three have six.
        c.due("behind QUARTER 47: a has six", x.richest(), 0);
        x.blow(48);
        c.due("a, b, d, e have six", x.owner(0, 1) * x.owner(1, 1) * x.owner(2, 1) * x.owner(3, 1), 1296);
        c.due("none is left: now", x.richest(), 0);
        c.due("with PURSES", Calls.of("yard 4 4;owner a 0 0 5 1 9;owner b 1 0 6 2 9;run 9 6;").richest(), 1);
    }

    private void best() {
        c.promise("30 The first DIR by which an OWNER gains most; NONE: no such ones");
        GaleBank x = Calls.of("yard 4 4;owner a 0 0 5 1 9;owner b 1 0 6 1 9;vane a 7;vane b 6;");
        c.due("FORCE 0", x.best(0, 0), -1);
        c.due("FORCE 1", x.best(0, 1), 7);
        c.due("FORCE 9", x.best(0, 9), 7);
        c.due("FORCE 10", x.best(0, 10), -1);
        c.due("OWNER -1", x.best(-1, 1), -1);
        c.due("OWNER 1", x.best(1, 1), 6);
        c.due("OWNER 2", x.best(2, 1), -1);
        for (int n : WILD) {
            c.due("OWNER " + n, x.best(n, 1), -1);
            c.due("FORCE " + n, x.best(0, n), -1);
        }
        c.due("of like ones the first", Calls.of("yard 2 2;owner a 0 0 0 1 9;vane a 7;").best(0, 5), 0);
        c.due("of losses the least", Calls.of("yard 2 2;owner a 0 0 9 1 9;vane a 7;").best(0, 5), 7);
        GaleBank free = Calls.of("yard 4 4;owner a 0 0 5 1 0;owner b 1 0 6 1 9;");
        c.due("where b loses: the first but 0", free.best(0, 9), 1);
    }

    // ---- plans and sentences ----

    private void plan() {
        c.promise("31 how many LINES; -1 less the place of a FAULT: it stays");
        GaleBank x = Calls.of(BANK);
        c.due("none", Calls.plan(x, ""), 0);
        c.due("thirty", Calls.plan(x, "oil a;".repeat(30)), 30);
        c.due("a FAULT at 0", Calls.plan(x, "#"), -1);
        c.due("a FAULT at 180", Calls.plan(x, "oil a;".repeat(31)), -181);
        c.due("a FAULT at 400", Calls.plan(x, " ".repeat(401)), -401);
        c.due("it stays", x.count(7), 30);
        c.due("the tape is empty", x.count(8), 0);
        x.judge(0);
        c.due("its LINES are done", x.judged(1), 30);
        c.due("one", Calls.plan(x, "blow 48;"), 1);
        c.due("a FAULT behind a sound LINE", Calls.plan(x, "oil a;oil z;"), -11);
        x.judge(0);
        c.due("the one", x.judged(2), 48);
        c.due("none again", Calls.plan(x, " "), 0);
        c.due("none again", x.count(7), 0);
    }

    private void judge() {
        c.promise("32 the LINE that is WRONG; NONE: none; -2: another lives");
        GaleBank x = Calls.of(BANK);
        c.due("no PLAN", x.judge(0), -1);
        c.due("no PLAN lived", x.judge(1), -1);
        c.due("lives -1", x.judge(-1), -2);
        c.due("lives 2", x.judge(2), -2);
        for (int n : WILD) {
            c.due("lives " + n, x.judge(n), -2);
        }
        Calls.plan(x, "fell 2;");
        c.due("the first LINE", x.judge(0), 0);
        Calls.plan(x, "oil a;".repeat(29) + "fell 2;");
        c.due("the last of thirty", x.judge(0), 29);
        Calls.plan(x, "oil a;".repeat(30));
        c.due("none of thirty", x.judge(0), -1);
        Calls.plan(x, "fell 2;fell 3;");
        c.due("the first of two", x.judge(0), 0);
    }

    private void judgeLives() {
        c.promise("32 all staying as it is (lives 0), or as far as it is not WRONG (1)");
        GaleBank x = Calls.of(BANK);
        Calls.plan(x, "point a 5;blow 1;set 2 2;fell 0;fell 0;oil b;");
        c.due("not lived", x.judge(0), 4);
        c.due("QUARTER", x.now(0), 0);
        c.due("a points", x.owner(0, 5), 0);
        c.due("fences", x.now(4), 1);
        c.due("trees", x.now(5), 2);
        c.due("gold", x.now(2), 90);
        c.due("nothing to undo", x.undo(), -1);
        c.due("again the same", x.judge(0), 4);
        c.due("lives 2 does nothing", x.judge(2), -2);
        c.due("QUARTER", x.now(0), 0);
        c.due("lived", x.judge(1), 4);
        c.due("QUARTER", x.now(0), 1);
        c.due("a points", x.owner(0, 5), 5);
        c.due("fences", x.now(4), 2);
        c.due("trees", x.now(5), 1);
        c.due("the PLAN is there still", x.count(7), 6);
        c.due("from what is so then", x.judge(1), 2);
        c.due("QUARTER", x.now(0), 2);
    }

    private void oneLineLived() {
        c.promise("32 a PLAN of one LINE, or of which one was done, is lived");
        GaleBank x = Calls.of(BANK);
        Calls.plan(x, "blow 1;");
        c.due("lived", x.judge(1), -1);
        c.due("QUARTER", x.now(0), 1);
        c.due("LINES done", x.judged(1), 1);
        Calls.plan(x, "fell 0;fell 0;");
        c.due("lived to the second LINE", x.judge(1), 1);
        c.due("trees", x.now(5), 1);
        c.due("LINES done", x.judged(1), 1);
        c.due("it is undone", x.undo(), 1);
        c.due("trees", x.now(5), 2);
        c.due("the first is undone", x.undo(), 0);
        c.due("QUARTER", x.now(0), 0);
        String[] lines = {"set 2 2;", "fell 1;", "oil a;", "point a 7;", "blow 48;"};
        for (int i = 0; i < lines.length; i++) {
            Calls.plan(x, lines[i]);
            c.due("lived: " + lines[i], x.judge(1), -1);
            c.due("kept for undo(): " + lines[i], x.undo(), 0);
        }
    }

    private void judged() {
        c.promise("33 0: it was not; NONE: another what, or ahead of any");
        GaleBank x = Calls.of(BANK);
        for (int what = -1; what <= 5; what++) {
            c.due("ahead of any " + what, x.judged(what), -1);
        }
        x.judge(2);
        c.due("ahead of any that was not -2", x.judged(0), -1);
        x.judge(0);
        int[] none = {0, 0, 0, 0, 1};
        for (int what = 0; what < none.length; what++) {
            c.due("of no PLAN " + what, x.judged(what), none[what]);
        }
        c.due("-1", x.judged(-1), -1);
        c.due("5", x.judged(5), -1);
        for (int n : WILD) {
            c.due("judged " + n, x.judged(n), -1);
        }
        Calls.plan(x, "point a 1;point b 1;blow 1;set 2 2;set 2 2;");
        x.judge(0);
        int[] wrong = {1, 4, 1, 10, 2};
        for (int what = 0; what < wrong.length; what++) {
            c.due("at its end " + what, x.judged(what), wrong[what]);
        }
        x.judge(-1);
        x.blow(5);
        Calls.plan(x, "");
        Calls.bank(x, "");
        for (int what = 0; what < wrong.length; what++) {
            c.due("of the latest that was not -2 " + what, x.judged(what), wrong[what]);
        }
        x.judge(1);
        c.due("why: it was not", x.judged(0), 0);
        c.due("fences", x.judged(4), 0);
    }

    private void sentence() {
        c.promise("34 how many ONES (each not, bracket and other one); -1 less the place of a FAULT: it stays");
        GaleBank x = Calls.of(BANK);
        c.due("one", Calls.sentence(x, "place=1"), 1);
        c.due("none is a FAULT at 0", Calls.sentence(x, ""), -1);
        c.due("a FAULT at 3", Calls.sentence(x, "not"), -4);
        c.due("a FAULT at 200", Calls.sentence(x, " ".repeat(201)), -201);
        c.due("it stays", x.said(-1), 1);
        c.due("it stays", x.said(0), 1);
        c.due("the tape is empty", x.count(8), 0);
        c.due("two", Calls.sentence(x, "not place=1"), 2);
        c.due("two", Calls.sentence(x, "(place=0)"), 2);
        c.due("twenty", Calls.sentence(x, "faces" + " or faces".repeat(19)), 20);
        c.due("a bank with a FAULT leaves it", Calls.bank(x, "#"), -1);
        c.due("it stays", x.said(-1) >= 0, true);
    }

    private void said() {
        c.promise("35 how many (k NONE), or the k-th. NONE: there is no SENTENCE, none such");
        GaleBank x = Calls.of(eight(""));
        c.due("no SENTENCE, how many", x.said(-1), -1);
        c.due("no SENTENCE, the first", x.said(0), -1);
        Calls.sentence(x, "gold=9");
        c.due("all", x.said(-1), 8);
        for (int k = 0; k < 8; k++) {
            c.due("the k-th", x.said(k), k);
        }
        c.due("the ninth", x.said(8), -1);
        c.due("-2", x.said(-2), -1);
        for (int n : WILD) {
            c.due("said " + n, x.said(n), -1);
        }
        Calls.sentence(x, "gold<9");
        c.due("none, less", x.said(-1), 0);
        c.due("the first of none", x.said(0), -1);
        Calls.sentence(x, "gold>9");
        c.due("none, more", x.said(-1), 0);
        Calls.sentence(x, "gold>8 and gold<10 and not gold=8");
        c.due("all", x.said(-1), 8);
        Calls.sentence(x, "place>6");
        c.due("the last OWNER", x.said(0), 7);
        Calls.sentence(x, "dir=9 or ".repeat(19) + "dir=0");
        c.due("by the last of twenty ONES", x.said(-1), 8);
        Calls.sentence(x, "dir=0 and ".repeat(19) + "dir=1");
        c.due("but for the last of twenty ONES", x.said(-1), 0);
        Calls.sentence(x, "not(dir=1 or not(dir=1 or not(dir=1 or not dir=0)))");
        c.due("eight within one another", x.said(-1), 8);
        Calls.sentence(x, "dir=1 or dir=0 and(dir=1 or dir=0 and(dir=1 or dir=0 and(dir=1 or dir=0 and(dir=1 or dir=0 and(dir=1 or dir=0 and place=2)))))");
        c.due("much that waits for a bracket's end", x.said(-1), 1);
        c.due("whom", x.said(0), 2);
        Calls.sentence(x, "dir=0 and not faces");
        c.due("no gust yet, so none faces it", x.said(-1), 8);
        GaleBank none = new GaleBank();
        Calls.sentence(none, "not faces");
        c.due("no OWNERS", none.said(-1), 0);
        c.due("no OWNERS", none.said(0), -1);
    }

    private void saidOf(String sentence, int owners) {
        GaleBank x = Calls.of(eight(""));
        Calls.sentence(x, sentence);
        c.due("how many: " + sentence, x.said(-1), Integer.bitCount(owners));
        int k = 0;
        for (int o = 0; o < 8; o++) {
            if ((owners >> o & 1) == 1) {
                c.due("the k-th: " + sentence, x.said(k), o);
                k++;
            }
        }
        c.due("no more: " + sentence, x.said(k), -1);
    }

    private void saidByJoints() {
        c.promise("35 COND: ALL { 'or' ALL }, ALL: ONE { 'and' ONE }: 'and' joins ahead of 'or'");
        String[] tests = {"place<0", "place=1", "place<4", "place>2", "place=7", "place>999", "place<999"};
        int[] bits = {0, 2, 15, 248, 128, 0, 255};
        for (int i = 0; i < tests.length; i++) {
            saidOf(tests[i], bits[i]);
            saidOf("not " + tests[i], 255 ^ bits[i]);
            saidOf("not not " + tests[i], bits[i]);
            for (int j = 0; j < tests.length; j++) {
                saidOf(tests[i] + " and " + tests[j], bits[i] & bits[j]);
                saidOf(tests[i] + " or " + tests[j], bits[i] | bits[j]);
                saidOf("not " + tests[i] + " or " + tests[j], 255 ^ bits[i] | bits[j]);
                saidOf("not(" + tests[i] + " or " + tests[j] + ")", 255 ^ (bits[i] | bits[j]));
            }
        }
        saidOf("place=0 or place=1 and place=2", 1);
        saidOf("place=1 and place=2 or place=0", 1);
        saidOf("(place=0 or place=1)and place=1", 2);
        saidOf("place=1 and(place=0 or place=1)", 2);
        saidOf("place=0 or place=1 and place<9 or place=3", 11);
        saidOf("not place=0 and place<2", 2);
    }

    // ---- images ----

    private void image() {
        c.promise("36 place k (0, 1): true; false: no such one");
        GaleBank x = Calls.of(BANK);
        c.due("-1", x.image(-1), false);
        c.due("2", x.image(2), false);
        for (int n : WILD) {
            c.due("image " + n, x.image(n), false);
        }
        c.due("nothing is kept in 0", x.restore(0), false);
        c.due("nothing is kept in 1", x.restore(1), false);
        c.due("0", x.image(0), true);
        x.blow(1);
        c.due("1", x.image(1), true);
        x.blow(1);
        c.due("all stays", x.now(0), 2);
        c.due("undo stays", x.undo(), 1);
        x.restore(0);
        c.due("0 as kept", x.now(0), 0);
        x.restore(1);
        c.due("1 as kept", x.now(0), 1);
        x.blow(3);
        x.image(1);
        x.restore(0);
        x.restore(1);
        c.due("kept anew", x.now(0), 4);
    }

    private void restore() {
        c.promise("37 nothing can be undone; false: no such one, or nothing is kept there");
        GaleBank x = Calls.of(BANK);
        c.due("nothing is kept", x.restore(0), false);
        x.image(1);
        c.due("nothing is kept in 0", x.restore(0), false);
        c.due("-1", x.restore(-1), false);
        c.due("2", x.restore(2), false);
        x.blow(5);
        for (int n : WILD) {
            c.due("restore " + n, x.restore(n), false);
        }
        c.due("false changes nothing", x.now(0), 5);
        c.due("1", x.restore(1), true);
        c.due("as kept", x.now(0), 0);
        c.due("nothing can be undone", x.undo(), -1);
        x.oil(0);
        c.due("but what is done then", x.undo(), 0);
        c.due("no more", x.undo(), -1);
        x.blow(7);
        c.due("kept still", x.restore(1), true);
        c.due("as kept", x.now(0), 0);
        GaleBank empty = new GaleBank();
        empty.image(0);
        Calls.bank(empty, BANK);
        c.due("an empty BANK is kept, too", empty.restore(0), true);
        c.due("no OWNERS", empty.count(2), 0);
    }

    private static final String FULL = "yard 5 4;owner a 0 3 50 2 3;owner b 4 3 40 1 0;vane a 6;tree 0 2;tree 4 1;fence 3 0;eddy 0 3 2;eddy 4 3 1;"
            + "gust 0 0 5;gust 3 4 9;gust 8 1 7;gust 40 6 9;run 2 3;pact a b;plot b 2 2;";
    private static final String OTHER = "yard 5 4;owner c 1 1 9 1 9;owner d 0 0 8 99 8;owner e 3 3 7 50 7;tree 4 3;tree 0 3;tree 2 2;eddy 1 1 7;fence 3 1;"
            + "gust 0 3 1;gust 8 7 2;run 9 9;pact d c;plot c 2 3;plot d 4 0;vane c 5;";

    private static GaleBank lived() {
        GaleBank x = Calls.of(FULL);
        Calls.plan(x, "point b 2;blow 9;set 1 1;fell 1;");
        Calls.sentence(x, "not (gold<45 or dir=3) and stick>0");
        x.blow(4);
        x.fell(0);
        x.point(0, 5);
        return x;
    }

    private void restoredAsKept() {
        c.promise("37 They are as kept in place k");
        GaleBank x = lived();
        x.image(0);
        Calls.bank(x, OTHER);
        Calls.plan(x, "oil c;oil d;oil e;fell 9;");
        Calls.sentence(x, "place<9");
        x.blow(20);
        c.due("restore", x.restore(0), true);
        c.same("as kept", Calls.all(x), Calls.all(lived()));

        GaleBank y = Calls.of(FULL);
        y.blow(4);
        y.image(1);
        Calls.bank(y, OTHER);
        y.restore(1);
        GaleBank fresh = Calls.of(FULL);
        fresh.blow(4);
        int pairs = 0;
        for (int i = 0; i < 64; i++) {
            int found = oiled(fresh, i / 8, i % 8);
            c.due("the BANK as it was told: " + i / 8 + " " + i % 8, oiled(y, i / 8, i % 8), found);
            pairs += found;
        }
        c.due("pairs in all", pairs, 8);
        GaleBank shade = Calls.of("yard 5 4;owner a 0 3 50 2 3;owner b 4 3 40 1 3;vane a 6;vane b 5;tree 0 2;fence 4 2;gust 0 0 4;");
        shade.blow(1);
        shade.image(0);
        Calls.bank(shade, OTHER);
        shade.restore(0);
        // Of 4 there come 2 to a, who oiled goes on from 6 to 0, and 1 to b, who oiled goes on from 5 to 6.
        c.due("a oiled", oiled(shade, 0, 5), 1);
        c.due("b oiled", oiled(shade, 6, 6), 1);
        c.due("both", oiled(shade, 0, 6), 0);
        c.due("neither", oiled(shade, 6, 5), 0);
        y.fell(1);
        c.due("a tree's CELL", y.cell(14, 0), 0);
        c.due("its names", Calls.plan(y, "oil a;oil b;"), 2);
        c.due("no other names", Calls.plan(y, "oil c;"), -5);
    }

    private void restoredTexts() {
        c.promise("37 PLAN and SENTENCE are as kept");
        GaleBank x = Calls.of(FULL);
        String[] plans = {"oil a;point b 7;blow 3;", "set 0 0;fell 1;oil b;point a 2;blow 40;", ""};
        String[] sentences = {"place=1", "faces or not(gold>45 and purse=0)", "dir<7"};
        int[] said = {1, 2, 3};
        for (int i = 0; i < 3; i++) {
            Calls.plan(x, plans[i]);
            Calls.sentence(x, sentences[i]);
            x.judge(0);
            String kept = told(x);
            x.image(i % 2);
            Calls.plan(x, "blow 1;oil b;fell 0;set 1 1;point a 4;");
            Calls.sentence(x, "stick=3 or place>0 and not place=1");
            c.due("restore " + i, x.restore(i % 2), true);
            x.judge(0);
            c.same("kept " + i, told(x), kept);
            c.due("LINES " + i, x.count(7), said[i] == 3 ? 0 : 3 + 2 * i);
        }
        Calls.plan(x, "set 0 0;set 0 0;");
        c.due("a longer PLAN once kept does not show", x.judge(0), 1);
    }

    private void restoredYards() {
        c.promise("37 a BANK with another yard is as kept");
        String[] yards = {"yard 5 4;", "yard 3 2;", "yard 2 10;", "yard 10 2;", ""};
        int[] width = {5, 3, 2, 10, 0};
        int[] height = {4, 2, 10, 2, 0};
        for (int kept = 0; kept < yards.length; kept++) {
            for (int later = 0; later < yards.length; later++) {
                GaleBank x = Calls.of(yards[kept]);
                x.image(0);
                Calls.bank(x, yards[later]);
                x.restore(0);
                c.due("W", x.count(0), width[kept]);
                c.due("H", x.count(1), height[kept]);
                for (int at = 0; at < 100; at++) {
                    boolean is = at % 10 < width[kept] && at / 10 < height[kept];
                    c.due("comes to " + at, x.comes(at, 0, 1, 1), is ? 1 : -1);
                }
                boolean told = kept < 4;
                c.due("the last CELL of a PLAN", Calls.plan(x, "set " + (width[kept] - 1 & 15) + " " + (height[kept] - 1 & 15) + ";"), told ? 1 : -5);
                c.due("no X behind it", Calls.plan(x, "set " + width[kept] + " 0;"), -5);
                c.due("no Y behind it", Calls.plan(x, "set 0 " + height[kept] + ";"), told ? -7 : -5);
            }
        }
    }

    private void restoredShorterAndLonger() {
        c.promise("37 a SENTENCE that is shorter or longer than the one now is as kept");
        String[] sentences = {"place=3", "place=0 and not place=3", "not place=1", "not not place=2", "place=4 or place=5 or place=6"};
        int[] bits = {8, 1, 253, 4, 112};
        for (int older = 0; older < sentences.length; older++) {
            for (int kept = 0; kept < sentences.length; kept++) {
                for (int later = 0; later < sentences.length; later++) {
                    GaleBank x = Calls.of(eight(""));
                    Calls.sentence(x, sentences[older]);
                    Calls.sentence(x, sentences[later]);
                    Calls.sentence(x, sentences[kept]);
                    x.image(1);
                    Calls.sentence(x, sentences[later]);
                    x.restore(1);
                    int said = 0;
                    for (int k = 0; k < 8; k++) {
                        said |= x.said(k) < 0 ? 0 : 1 << x.said(k);
                    }
                    c.due("of whom " + sentences[kept] + ", then " + sentences[later], said, bits[kept]);
                    c.due("how many " + sentences[kept], x.said(-1), Integer.bitCount(bits[kept]));
                }
            }
        }
    }

    private void restoredWithoutTexts() {
        c.promise("37 no PLAN, no SENTENCE is kept, too");
        GaleBank x = Calls.of(BANK);
        x.image(0);
        Calls.plan(x, "oil a;");
        Calls.sentence(x, "place=1");
        x.image(1);
        x.restore(0);
        c.due("no SENTENCE", x.said(-1), -1);
        c.due("no SENTENCE, the first", x.said(0), -1);
        c.due("no PLAN", x.count(7), 0);
        x.judge(0);
        c.due("no LINES done", x.judged(1), 0);
        Calls.bank(x, BANK);
        c.due("a new BANK has none", x.said(-1), -1);
        x.restore(1);
        c.due("a SENTENCE as kept", x.said(-1), 1);
        c.due("of whom", x.said(0), 1);
        c.due("a PLAN as kept", x.count(7), 1);
        x.judge(0);
        c.due("LINES done", x.judged(1), 1);
    }

    private static String told(GaleBank x) {
        StringBuilder b = new StringBuilder();
        for (int what = 0; what < 5; what++) {
            b.append(x.judged(what)).append(' ');
        }
        for (int k = -1; k < 3; k++) {
            b.append(x.said(k)).append(' ');
        }
        x.judge(1);
        b.append(owners(x));
        x.undo();
        return b.toString();
    }

    private void restoreLeaves() {
        c.promise("37 the tape, and what other calls told last, stays");
        GaleBank x = Calls.of(SHADE);
        x.image(0);
        x.fence(0);
        x.blow(1);
        c.due("pairs", oiled(x, 2, 2), 2);
        Calls.plan(x, "fell 0;");
        x.judge(0);
        Calls.sentence(x, "#");
        Calls.tape(x, Calls.bytes("run 7 7;"));
        c.due("restore", x.restore(0), true);
        c.due("more()", x.more(), 3);
        c.due("oiledAt()", x.oiledAt(1), 100);
        c.due("judged()", x.judged(0), 3);
        c.due("fault()", x.fault(), 1);
        c.due("the tape", x.count(8), 8);
        c.due("no PLAN was kept", x.count(7), 0);
        c.due("its bytes", x.bank(), 1);
        c.due("EACH", x.count(5), 7);
    }

    private void count() {
        c.promise("38 NONE for another what");
        GaleBank x = Calls.of(BANK);
        Calls.plan(x, "oil a;".repeat(30));
        x.feed(0, 0, 0, 0, 0);
        int[] told = {5, 4, 2, 2, 2, 2, 3, 30, 20};
        for (int what = 0; what < told.length; what++) {
            c.due("count " + what, x.count(what), told[what]);
        }
        c.due("-1", x.count(-1), -1);
        c.due("9", x.count(9), -1);
        for (int n : WILD) {
            c.due("count " + n, x.count(n), -1);
        }
        x.fell(0);
        x.blow(48);
        c.due("trees told, not those that stand", x.count(3), 2);
        c.due("gusts told, not those to come", x.count(4), 2);
    }
}
