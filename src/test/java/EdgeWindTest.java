/** Parts 2 and 3 of the terms, sentence by sentence: the edges of gusts, vanes, parts, runs, and of what would be. */
public final class EdgeWindTest {
    private static final String YARD = "yard 10 10;";
    /** Vanes with STICK 9 stay where they point. a points north and faces; d points south and loses. */
    private static final String A_AND_D = YARD + "owner a 0 9 50 1 9;owner d 9 9 50 1 9;vane d 4;";

    private final Calls c = new Calls();

    public static void main(String[] args) {
        EdgeWindTest test = new EdgeWindTest();
        test.threeCells();
        test.eightDirs();
        test.nothingOutsideTheYard();
        test.zeroAtLeast();
        test.eddyOnTheCellItself();
        test.eddyOnTheFirstAndTheLast();
        test.byFourAsTheClockGoes();
        test.aboveItsStick();
        test.notFartherThanTheDir();
        test.stuck();
        test.oilFrees();
        test.quartersFrom0To47();
        test.forceAbove0();
        test.orWhatTheyHave();
        test.partsAreCut();
        test.greatestRests();
        test.thirdIsCut();
        test.pactsOfAll();
        test.noneFaces();
        test.runByShare();
        test.runOrWhatTheyHave();
        test.runUntilCash();
        test.neverChange();
        test.fenceFirstByYThenX();
        test.fenceWithoutAThing();
        test.fenceOnlyIfMore();
        test.plotsWithoutAThing();
        test.atRest();
        test.oiledOfThoseGone();
        test.oiledAsTold();
        test.oiledByTheLeastForce();
        test.suitFromNowOn();
        test.forecastFromNowOn();
        test.forecastDoesNotStick();
        test.drawsWrap();
        test.drawOf0IsNoGust();
        test.wrongByTheLeastReason();
        test.blowNoFartherThan47();
        test.aNewBank();
        test.nothingOfOlderBanks();
        test.aCallThatThrows();
        test.c.finish();
    }

    // ---- a gust ----

    private void threeCells() {
        c.promise("of the three CELLS from there towards DIR each with a tree takes 2, each with a fence 3");
        for (int far = 0; far <= 4; far++) {
            boolean takes = far >= 1 && far <= 3;
            GaleBank tree = Calls.of(YARD + "tree 5 " + (5 - far) + ";");
            c.due("a tree so far: " + far, tree.comes(55, 0, 9, 1), takes ? 7 : 9);
            GaleBank fence = Calls.of(YARD + "fence 5 " + (5 - far) + ";");
            c.due("a fence so far: " + far, fence.comes(55, 0, 9, 1), takes ? 6 : 9);
        }
        GaleBank all = Calls.of(YARD + "fence 5 4;fence 5 3;fence 5 2;fence 5 1;");
        c.due("three of four", all.comes(55, 0, 9, 1), 0);
        c.due("two of them", all.comes(45, 0, 9, 1), 0);
        c.due("none behind the last", all.comes(15, 0, 9, 1), 9);
        c.due("one", all.comes(25, 0, 9, 1), 6);
        GaleBank vane = Calls.of(YARD + "owner a 5 4 1 1 1;eddy 5 3 1;owner b 0 0 1 1 1;plot b 5 2;");
        c.due("a vane, an eddy and a plot take nothing", vane.comes(55, 0, 9, 1), 9);
    }

    private void eightDirs() {
        c.promise("DIR: 0 to 7: whence the wind comes: north, north-east, east, .. as the clock goes (north is Y less)");
        int[] east = {0, 1, 1, 1, 0, -1, -1, -1};
        int[] south = {-1, -1, 0, 1, 1, 1, 0, -1};
        for (int dir = 0; dir < 8; dir++) {
            for (int far = 1; far <= 4; far++) {
                String place = 5 + far * east[dir] + " " + (5 + far * south[dir]) + ";";
                GaleBank tree = Calls.of(YARD + "tree " + place);
                GaleBank fence = Calls.of(YARD + "fence " + place);
                for (int from = 0; from < 8; from++) {
                    boolean takes = from == dir && far <= 3;
                    c.due("a tree in " + dir + " so far: " + far + ", from " + from, tree.comes(55, from, 9, 1), takes ? 7 : 9);
                    c.due("a fence in " + dir + " so far: " + far + ", from " + from, fence.comes(55, from, 9, 1), takes ? 6 : 9);
                }
            }
        }
    }

    private void nothingOutsideTheYard() {
        c.promise("the three CELLS end at the yard's edge");
        // A row's end is not beside the next row's beginning.
        GaleBank x = Calls.of("yard 3 3;fence 0 0;fence 0 1;fence 0 2;");
        for (int y = 0; y < 3; y++) {
            for (int dir = 1; dir <= 3; dir++) {
                c.due("east of " + y, x.comes(10 * y + 2, dir, 9, 1), 9);
            }
        }
        GaleBank wide = Calls.of(YARD + "fence 0 0;fence 0 1;fence 0 2;fence 9 9;fence 9 8;");
        c.due("east of 9 0", wide.comes(9, 2, 9, 1), 9);
        c.due("south-east of 9 0", wide.comes(9, 3, 9, 1), 9);
        c.due("west of 0 9", wide.comes(90, 6, 9, 1), 9);
        c.due("north-west of 0 9", wide.comes(90, 7, 9, 1), 9);
        c.due("north of 5 0", wide.comes(5, 0, 9, 1), 9);
        c.due("south of 5 9", wide.comes(95, 4, 9, 1), 9);
        c.due("the edge within reach", Calls.of("yard 2 2;fence 0 0;").comes(11, 7, 9, 1), 6);
    }

    private void zeroAtLeast() {
        c.promise("what is left of FORCE (0 at least)");
        GaleBank x = Calls.of(YARD + "fence 5 4;tree 5 3;");
        for (int force = 1; force <= 9; force++) {
            c.due("of " + force, x.comes(55, 0, force, 1), force > 5 ? force - 5 : 0);
        }
    }

    private void eddyOnTheCellItself() {
        c.promise("an eddy on the CELL itself turns DIR by TURN (as the clock goes)");
        for (int turn = 1; turn <= 7; turn++) {
            GaleBank x = Calls.of(YARD + "eddy 5 5 " + turn + ";fence 5 4;");
            for (int dir = 0; dir < 8; dir++) {
                c.due("TURN " + turn + " of " + dir, x.comes(55, dir, 9, 0), (dir + turn) % 8);
                c.due("what takes lies towards the gust's own DIR " + dir, x.comes(55, dir, 9, 1), dir == 0 ? 6 : 9);
                c.due("a CELL beside it", x.comes(54, dir, 9, 0), dir);
            }
        }
    }

    private void eddyOnTheFirstAndTheLast() {
        c.promise("an eddy on the first and on the last CELL");
        GaleBank x = Calls.of(YARD + "owner a 0 0 9 1 0;owner b 9 9 9 1 0;eddy 0 0 3;eddy 9 9 7;gust 0 0 9;");
        c.due("TURN of 0", x.cell(0, 2), 3);
        c.due("TURN of 99", x.cell(99, 2), 7);
        c.due("to 0", x.comes(0, 6, 1, 0), 1);
        c.due("to 99", x.comes(99, 6, 1, 0), 5);
        x.blow(1);
        c.due("a turned", x.owner(0, 5), 3);
        c.due("b turned", x.owner(1, 5), 7);
    }

    // ---- vanes ----

    private static int turned(int from, int stick, int dir, int force) {
        GaleBank x = Calls.of(YARD + "owner a 5 5 9 1 " + stick + ";vane a " + from + ";gust 0 " + dir + " " + force + ";");
        x.blow(1);
        return x.owner(0, 5);
    }

    private void byFourAsTheClockGoes() {
        c.promise("by the shorter way (by four: as the clock goes)");
        for (int from = 0; from < 8; from++) {
            c.due("by three from " + from, turned(from, 0, (from + 3) % 8, 1), (from + 1) % 8);
            c.due("by four from " + from, turned(from, 0, (from + 4) % 8, 1), (from + 1) % 8);
            c.due("by five from " + from, turned(from, 0, (from + 5) % 8, 1), (from + 7) % 8);
            c.due("three of four from " + from, turned(from, 0, (from + 4) % 8, 3), (from + 3) % 8);
        }
    }

    private void aboveItsStick() {
        c.promise("by as many eighths as the force that comes is above its STICK at most");
        for (int stick = 0; stick <= 9; stick++) {
            for (int force = 1; force <= 9; force++) {
                int above = Math.max(0, Math.min(4, force - stick));
                c.due("STICK " + stick + " by " + force, turned(0, stick, 4, force), above);
            }
        }
        // It is the force that comes, not the gust's.
        GaleBank x = Calls.of(YARD + "owner a 5 5 9 1 2;vane a 4;fence 5 4;gust 0 0 5;gust 1 0 6;");
        x.blow(1);
        c.due("2 of 5 are not above", x.owner(0, 5), 4);
        x.blow(1);
        c.due("3 of 6 are", x.owner(0, 5), 5);
    }

    private void notFartherThanTheDir() {
        c.promise("a vane TURNS towards the DIR that comes to it, no farther");
        for (int dir = 0; dir < 8; dir++) {
            c.due("by 9 from 3", turned(3, 0, dir, 9), dir);
            c.due("there already", turned(dir, 0, dir, 9), dir);
        }
        GaleBank x = Calls.of(YARD + "owner a 5 5 9 1 0;eddy 5 5 7;gust 0 0 9;");
        x.blow(1);
        c.due("the DIR that comes, by an eddy", x.owner(0, 5), 7);
    }

    private void stuck() {
        c.promise("not at all, if it is stuck");
        GaleBank x = Calls.of(YARD + "owner a 5 5 9 1 0;gust 0 4 9;gust 1 4 9;");
        x.point(0, 0);
        x.blow(1);
        c.due("by point()", x.owner(0, 5), 0);
        c.due("it is stuck still", x.owner(0, 6), 1);
        GaleBank y = Calls.of(YARD + "owner a 5 5 9 1 0;gust 0 4 9;");
        Calls.plan(y, "point a 1;blow 1;");
        y.judge(1);
        c.due("by 'point'", y.owner(0, 5), 1);
        c.due("stuck by 'point'", y.owner(0, 6), 1);
        y.point(0, 2);
        c.due("a stuck one can be pointed", y.owner(0, 5), 2);
    }

    private void oilFrees() {
        c.promise("'oil' frees it and makes its STICK 0");
        GaleBank x = Calls.of(YARD + "owner a 5 5 9 1 9;gust 0 1 1;gust 1 2 1;");
        Calls.plan(x, "point a 0;oil a;blow 1;");
        x.judge(1);
        c.due("free by 'oil'", x.owner(0, 6), 0);
        c.due("STICK", x.owner(0, 4), 0);
        c.due("it turns by force 1", x.owner(0, 5), 1);
        x.point(0, 1);
        x.oil(0);
        x.blow(1);
        c.due("free by oil()", x.owner(0, 5), 2);
    }

    private void quartersFrom0To47() {
        c.promise("QUARTERS go from 0 to 47");
        GaleBank x = Calls.of(YARD + "owner a 5 5 50 1 9;vane a 4;gust 0 0 1;gust 47 0 2;");
        x.blow(1);
        c.due("0 is the first", x.now(1), 1);
        x.blow(46);
        c.due("up to 46", x.now(1), 1);
        c.due("47 is next", x.now(0), 47);
        c.due("one goes", x.blow(48), 1);
        c.due("47 is the last", x.now(1), 3);
        c.due("none is next", x.now(0), 48);
        c.due("none goes", x.blow(1), 0);
        c.due("nothing is done", x.now(1), 3);
    }

    private void forceAbove0() {
        c.promise("those whose force is above 0 and that point then as it comes to them FACE it");
        GaleBank x = Calls.of(YARD + "owner a 5 5 50 1 9;fence 5 4;");
        c.due("force 0", x.faces(0, 3), 0);
        c.due("force 1", x.faces(0, 4), 1);
        c.due("one eighth off", x.faces(1, 9), 0);
        GaleBank turns = Calls.of(YARD + "owner a 5 5 50 1 0;");
        c.due("then: three of four eighths", turns.faces(4, 3), 0);
        c.due("then: four of four", turns.faces(4, 4), 1);
        GaleBank eddy = Calls.of(YARD + "owner a 5 5 50 1 9;eddy 5 5 1;");
        c.due("not as the gust's own DIR", eddy.faces(0, 9), 0);
        c.due("as it comes to it", eddy.faces(7, 9), 1);
        x.point(0, 3);
        c.due("a stuck one, too", x.faces(3, 1), 1);
    }

    // ---- gold ----

    private void orWhatTheyHave() {
        c.promise("All other OWNERS lose as much gold as FORCE, or what they have");
        for (int gold = 0; gold <= 10; gold++) {
            GaleBank x = Calls.of(YARD + "owner a 5 5 " + gold + " 1 9;vane a 4;gust 0 0 5;");
            x.blow(1);
            int loss = Math.min(gold, 5);
            c.due("lost of " + gold, x.owner(0, 9), loss);
            c.due("left of " + gold, x.owner(0, 1), gold - loss);
        }
        GaleBank shade = Calls.of(YARD + "owner a 5 5 50 1 9;vane a 4;fence 5 4;gust 0 0 5;");
        shade.blow(1);
        c.due("FORCE, not what comes", shade.owner(0, 9), 5);
    }

    private static String facing(int... shares) {
        StringBuilder b = new StringBuilder(YARD + "owner z 9 9 99 1 9;vane z 4;");
        for (int i = 0; i < shares.length; i++) {
            b.append("owner ").append((char) ('a' + i)).append(' ').append(i).append(" 9 0 ").append(shares[i]).append(" 9;");
        }
        return b.toString();
    }

    private void gains(String text, int force, int... want) {
        GaleBank x = Calls.of(text);
        for (int o = 0; o < want.length; o++) {
            c.due("gains " + (o + 1) + " by " + force, x.gains(o + 1, 0, force), want[o]);
        }
    }

    private void partsAreCut() {
        c.promise("by SHARE: each has its part, cut");
        gains(facing(1, 2), 9, 3, 6);
        gains(facing(1, 2), 6, 2, 4);
        gains(facing(99, 1), 9, 9, 0);
        gains(facing(1), 7, 7);
    }

    private void greatestRests() {
        c.promise("what is left over goes ounce by ounce to those with the greatest rests (of like ones the first)");
        gains(facing(1, 1, 1), 1, 1, 0, 0);
        gains(facing(1, 1, 1), 2, 1, 1, 0);
        gains(facing(1, 1, 1), 3, 1, 1, 1);
        gains(facing(1, 1, 1), 4, 2, 1, 1);
        // 5 by 1, 2, 3 of 6: 5/6, 1 4/6, 2 3/6.
        gains(facing(1, 2, 3), 5, 1, 2, 2);
        // 7 by 3, 2, 1: 3 3/6, 2 2/6, 1 1/6.
        gains(facing(3, 2, 1), 7, 4, 2, 1);
        // 1 by 1, 2, 2: the first of like ones, not the first of all.
        gains(facing(1, 2, 2), 1, 0, 1, 0);
        // The rest that b kept of an older gust is nothing in a later one, which it does not face.
        GaleBank x = Calls.of(facing(5, 5, 1, 1, 1) + "vane c 2;vane d 2;vane e 2;gust 0 0 1;gust 1 2 1;");
        x.blow(2);
        int[] had = {0, 1, 0, 1, 1, 0};
        for (int o = 0; o < had.length; o++) {
            c.due("had " + o, x.owner(o, 10), had[o]);
        }
        // 6 by seven: no one has two.
        gains(facing(1, 1, 1, 1, 1, 1, 1), 6, 1, 1, 1, 1, 1, 1, 0);
        gains(facing(1, 1, 1, 1, 1, 1, 1), 9, 2, 2, 1, 1, 1, 1, 1);
    }

    private void thirdIsCut() {
        c.promise("Of what one has so a third (cut) goes to the other of its pact");
        // b has nothing to lose and does not face.
        String pact = YARD + "owner z 9 9 99 1 9;vane z 4;owner a 0 9 0 1 9;owner b 1 9 0 1 9;vane b 4;pact a b;";
        for (int force = 1; force <= 9; force++) {
            gains(pact, force, force - force / 3, force / 3);
        }
        // A part with an ounce of what is left over counts whole: 5 of 9 by like shares.
        String even = YARD + "owner z 9 9 99 1 9;vane z 4;owner a 0 9 0 1 9;owner b 1 9 0 1 9;owner e 2 9 0 1 9;vane e 4;pact a e;";
        gains(even, 9, 4, 4, 1);
        gains(even, 5, 2, 2, 1);
        // What comes by a pact is not shared on.
        String chain = YARD + "owner z 9 9 99 1 9;vane z 4;owner a 0 9 0 1 9;owner b 1 9 0 1 9;vane b 4;pact a b;pact b z;";
        gains(chain, 9, 6, 3);
        c.due("z", Calls.of(chain).gains(0, 0, 9), -9);
    }

    private void pactsOfAll() {
        c.promise("a third goes to the other of its pact, whoever that is, of this gust alone");
        // z is OWNER 0: it loses, and has a's third.
        String first = YARD + "owner z 9 9 99 1 9;vane z 4;owner a 0 9 0 1 9;pact a z;";
        gains(first, 9, 6);
        c.due("the first OWNER", Calls.of(first).gains(0, 0, 9), -6);
        // z is OWNER 0: it faces, and a, who loses, has its third.
        String gives = YARD + "owner z 9 9 0 1 9;owner a 0 9 99 1 9;vane a 4;pact z a;";
        gains(gives, 9, -6);
        c.due("the first OWNER gives", Calls.of(gives).gains(0, 0, 9), 6);
        c.due("as the gust is worth it", Calls.of(gives).gains(0, 0, 2), 2);
        // Both face, and have of one another: 5 and 4, thirds 1 and 1.
        gains(YARD + "owner z 9 9 99 1 9;vane z 4;owner a 0 9 0 1 9;owner b 1 9 0 1 9;pact a b;pact b a;", 9, 5, 4);
        // Both face, b by a greater SHARE: 3 and 6, thirds 1 and 2.
        gains(YARD + "owner z 9 9 99 1 9;vane z 4;owner a 0 9 0 1 9;owner b 1 9 0 2 9;pact a b;pact b a;", 9, 4, 5);
        // A round of three, 3 each.
        gains(YARD + "owner z 9 9 99 1 9;vane z 4;owner a 0 9 0 1 9;owner b 1 9 0 1 9;owner e 2 9 0 1 9;pact a b;pact b e;pact e a;", 9, 3, 3, 3);
        // Two give to one: 6 and 3, thirds 2 and 1.
        gains(YARD + "owner z 9 9 99 1 9;vane z 4;owner a 0 9 0 2 9;owner b 1 9 0 1 9;owner e 2 9 0 1 9;vane e 4;pact a e;pact b e;", 9, 4, 2, 3);
        // The first OWNER faces one gust and not the next, where none of the older gain comes again.
        GaleBank x = Calls.of(YARD + "owner a 0 9 50 1 9;owner b 1 9 50 1 9;vane b 2;gust 0 0 9;gust 1 2 3;");
        x.blow(2);
        c.due("a had", x.owner(0, 10), 9);
        c.due("a lost", x.owner(0, 9), 3);
        c.due("b had", x.owner(1, 10), 3);
        c.due("b lost", x.owner(1, 9), 9);
        // A third goes even to one who lost all and none to the TRUST.
        GaleBank none = Calls.of(first + "gust 0 2 9;");
        none.blow(1);
        c.due("none FACES it: no third", none.owner(0, 10), 0);
        c.due("the TRUST has all", none.now(1), 9);
    }

    private void noneFaces() {
        c.promise("If none FACES it, it goes to the TRUST");
        GaleBank x = Calls.of(A_AND_D + "gust 0 2 9;gust 1 0 9;");
        x.blow(1);
        c.due("of both", x.now(1), 18);
        c.due("none had it", x.owner(0, 10) + x.owner(1, 10), 0);
        x.blow(1);
        c.due("one faces", x.now(1), 18);
        c.due("who has it", x.owner(0, 10), 9);
        GaleBank all = Calls.of(YARD + "owner a 0 9 50 1 9;gust 0 0 9;");
        all.blow(1);
        c.due("all face: nothing is lost", all.owner(0, 1), 50);
        c.due("nothing goes to the TRUST", all.now(1), 0);
    }

    // ---- runs ----

    private void purses(String text, int... want) {
        GaleBank x = Calls.of(text);
        x.blow(1);
        for (int o = 0; o < want.length; o++) {
            c.due("PURSE " + o, x.owner(o, 2), want[o]);
        }
    }

    private static String three(int... shares) {
        return YARD + "owner a 0 0 50 " + shares[0] + " 1;owner b 1 0 50 " + shares[1] + " 1;owner d 2 0 50 " + shares[2] + " 1;";
    }

    private void runByShare() {
        c.promise("OWNERS by SHARE (the greatest first, of like ones the first)");
        purses(three(1, 2, 3) + "run 10 15;", 0, 5, 10);
        purses(three(3, 2, 1) + "run 10 15;", 10, 5, 0);
        purses(three(2, 2, 2) + "run 10 15;", 10, 5, 0);
        purses(three(1, 2, 2) + "run 10 25;", 5, 10, 10);
        purses(three(2, 1, 2) + "run 10 15;", 10, 0, 5);
        purses(three(98, 99, 1) + "run 10 10;", 0, 10, 0);
    }

    private void runOrWhatTheyHave() {
        c.promise("take EACH from their gold to their PURSE, or what they have");
        String poor = YARD + "owner a 0 0 9 3 1;owner b 1 0 10 2 1;owner d 2 0 11 1 1;owner e 3 0 0 4 1;";
        purses(poor + "run 10 999;", 9, 10, 10, 0);
        GaleBank x = Calls.of(poor + "run 10 999;");
        x.blow(2);
        c.due("the last ounce", x.owner(2, 2), 11);
        c.due("no gold is left", x.now(2), 0);
        c.due("what went in RUNS", x.now(7), 30);
    }

    private void runUntilCash() {
        c.promise("until CASH is taken in that QUARTER");
        purses(three(3, 2, 1) + "run 10 9;", 9, 0, 0);
        purses(three(3, 2, 1) + "run 10 10;", 10, 0, 0);
        purses(three(3, 2, 1) + "run 10 11;", 10, 1, 0);
        purses(three(3, 2, 1) + "run 10 30;", 10, 10, 10);
        purses(three(3, 2, 1) + "run 10 31;", 10, 10, 10);
        purses(three(3, 2, 1) + "run 10 0;", 0, 0, 0);
        purses(three(3, 2, 1) + "run 0 10;", 0, 0, 0);
        GaleBank x = Calls.of(three(3, 2, 1) + "run 10 11;gust 1 0 1;");
        x.blow(3);
        c.due("each calm QUARTER anew, none with a gust", x.now(7), 22);
    }

    private void neverChange() {
        c.promise("All gold, PURSES and the TRUST together never change");
        String text = three(5, 7, 9) + "run 7 12;pact a b;pact b d;vane b 2;eddy 2 0 3;gust 1 2 9;gust 3 4 7;gust 5 1 9;gust 8 0 8;gust 47 3 9;";
        for (int i = 1; i <= 48; i++) {
            GaleBank x = Calls.of(text);
            x.blow(i);
            c.due("behind " + i, x.now(1) + x.now(2) + x.now(3), 150);
            int owners = 0;
            for (int o = 0; o < 3; o++) {
                owners += x.owner(o, 1) + x.owner(o, 2);
                c.due("told, less lost, and had", 50 - x.owner(o, 9) + x.owner(o, 10), x.owner(o, 1) + x.owner(o, 2));
            }
            c.due("of OWNERS", owners, x.now(2) + x.now(3));
        }
    }

    // ---- what would be ----

    /** b faces each gust by turning, and so does a, far away; what shades b brings a its loss. */
    private static final String SHADE = YARD + "owner a 0 0 50 1 0;owner b 5 5 50 1 0;";

    private void fenceFirstByYThenX() {
        c.promise("FENCE: of like ones the first by Y, then X");
        c.due("by X on one Y", Calls.of(SHADE + "gust 0 2 3;").fence(0), 56);
        c.due("by X on one Y, from the west", Calls.of(SHADE + "vane a 6;vane b 6;gust 0 6 3;").fence(0), 52);
        c.due("by Y on one X", Calls.of(SHADE + "gust 0 0 3;").fence(0), 25);
        c.due("by Y ahead of X", Calls.of(SHADE + "vane a 5;vane b 5;gust 0 5 3;").fence(0), 64);
        c.due("by Y ahead of X", Calls.of(SHADE + "gust 0 2 3;gust 1 0 3;").fence(0), 25);
        c.due("more ahead of first", Calls.of(SHADE + "gust 0 2 4;gust 1 0 3;tree 6 5;").fence(0), 57);
    }

    private void fenceWithoutAThing() {
        c.promise("FENCE: of all CELLS without a thing");
        c.due("a vane is there", Calls.of(SHADE + "owner z 6 5 0 1 9;vane z 6;gust 0 2 3;").fence(0), 57);
        c.due("a tree is there", Calls.of(SHADE + "tree 6 5;gust 0 2 5;").fence(0), 57);
        c.due("a fence is there", Calls.of(SHADE + "fence 6 5;gust 0 2 6;").fence(0), 57);
        c.due("an eddy and a plot are no things", Calls.of(SHADE + "eddy 6 5 1;plot a 6 5;gust 0 2 3;").fence(0), 56);
        GaleBank full = Calls.of("yard 2 2;owner a 0 0 5 1 0;owner b 1 0 5 1 0;owner d 0 1 5 1 0;owner e 1 1 5 1 0;gust 0 0 3;");
        c.due("no CELL", full.fence(0), -1);
    }

    private void fenceOnlyIfMore() {
        c.promise("FENCE: only if it is more than without");
        GaleBank x = Calls.of(SHADE + "gust 0 2 3;");
        c.due("more", x.fence(0) >= 0, true);
        c.due("by so much", x.more(), 3);
        c.due("no gust", Calls.of(SHADE).fence(0), -1);
        c.due("force 1 is left", Calls.of(SHADE + "vane b 2;gust 0 2 4;").fence(0), -1);
        c.due("none is left", Calls.of(SHADE + "vane b 2;gust 0 2 3;").fence(0), 56);
        x.blow(1);
        c.due("from now on", x.fence(0), -1);
        c.due("it is told still", x.more(), 3);
    }

    private void plotsWithoutAThing() {
        c.promise("PLOTS: some OWNERS with a plot (a CELL without a thing)");
        GaleBank x = Calls.of(SHADE + "owner e 9 9 50 1 9;plot a 6 5;plot b 1 0;gust 0 2 3;tree 8 8;");
        c.due("none", x.has(0, 0), 52);
        c.due("a's", x.has(0, 1), 56);
        c.due("both", x.has(0, 3), 47);
        c.due("e has no plot", x.has(0, 4), -1);
        c.due("no fourth OWNER", x.has(0, 8), -1);
        x.set(65);
        x.set(56);
        c.due("a fence is on a's", x.has(0, 1), -1);
        c.due("b's alone", x.has(0, 2), 47);
        // b loses anyhow, so neither set brings it more.
        c.due("sets without a's", x.rests(-1), 2);
        c.due("the last", x.rests(1), 2);
        GaleBank tree = Calls.of(SHADE + "plot a 6 5;tree 6 5;");
        c.due("a tree is on a's", tree.has(0, 1), -1);
        tree.fell(0);
        c.due("it is felled", tree.has(0, 1), 50);
        GaleBank vane = Calls.of(SHADE + "plot a 0 0;");
        c.due("a vane is on a's", vane.has(0, 1), -1);
        c.due("none are to be had", vane.rests(-1), 1);
        c.due("the empty set", vane.rests(0), 0);
    }

    private void atRest() {
        c.promise("At REST: no OWNER with a plot has more by its change alone");
        // As much is not more: without a gust each set rests.
        GaleBank same = Calls.of(SHADE + "plot a 6 5;plot b 1 0;");
        c.due("as much is not more", same.rests(-1), 4);
        // b's plot shades a, a's shades b; each alone brings 3.
        GaleBank x = Calls.of(SHADE + "plot a 6 5;plot b 1 0;gust 0 2 3;");
        c.due("not the empty one", x.rests(-1), 3);
        c.due("a's", x.rests(0), 1);
        c.due("b's", x.rests(1), 2);
        c.due("both", x.rests(2), 3);
        c.due("no fourth", x.rests(3), -1);
        // b's change would bring a gain to a alone, who has no plot.
        GaleBank one = Calls.of(SHADE + "plot b 6 5;gust 0 2 3;");
        c.due("b shades itself", one.rests(-1), 1);
        c.due("so it does not", one.rests(0), 0);
    }

    private int oiled(GaleBank x, int... dirs) {
        Calls.tape(x, Calls.bytes(dirs));
        return x.oiled();
    }

    private void oiledOfThoseGone() {
        c.promise("OILED: a QUARTER ahead of which (of those gone) its vane was oiled");
        GaleBank x = Calls.of(YARD + "owner a 5 5 50 1 9;gust 2 2 9;gust 47 4 9;");
        c.due("none is gone", oiled(x, 0), 0);
        x.blow(1);
        c.due("0 is gone", oiled(x, 0), 1);
        c.due("ahead of 0", x.oiledAt(0), 0);
        x.blow(1);
        c.due("the gust is not", oiled(x, 2), 0);
        x.blow(1);
        c.due("ahead of 0, 1, 2", oiled(x, 2), 3);
        c.due("the last", x.oiledAt(2), 2);
        c.due("no more", x.oiledAt(3), -1);
        c.due("not oiled, or too late", oiled(x, 0), 0);
        x.blow(45);
        c.due("behind all: ahead of 0 to 47", oiled(x, 4), 48);
        c.due("ahead of 47", x.oiledAt(47), 47);
    }

    private void oiledAsTold() {
        c.promise("OILED: from the BANK as it was told on; acts count nothing");
        GaleBank x = Calls.of(YARD + "owner a 5 5 50 1 3;vane a 6;tree 5 4;gust 0 0 4;");
        // 2 come, oiled it turns by two.
        x.fell(0);
        x.set(35);
        x.point(0, 3);
        x.oil(0);
        x.blow(1);
        c.due("oiled", oiled(x, 0), 1);
        c.due("not as it points now", oiled(x, x.owner(0, 5) == 0 ? 7 : x.owner(0, 5)), 0);
        c.due("not as without oil", oiled(x, 6), 0);
    }

    private void oiledByTheLeastForce() {
        c.promise("OILED: a gust with FORCE 1 turns an oiled vane, one with 1 left, too; none with 0 left does");
        GaleBank x = Calls.of(YARD + "owner a 5 5 50 1 1;gust 0 2 1;gust 1 4 1;");
        x.blow(1);
        c.due("by one eighth", oiled(x, 1), 1);
        x.blow(1);
        c.due("by two", oiled(x, 2), 1);
        c.due("ahead of 0", x.oiledAt(0), 0);
        c.due("by one", oiled(x, 1), 1);
        c.due("ahead of 1", x.oiledAt(0), 1);
        c.due("without oil", oiled(x, 0), 0);
        GaleBank shade = Calls.of(YARD + "owner a 5 5 50 1 1;fence 5 6;gust 0 4 3;gust 1 4 4;");
        shade.blow(1);
        c.due("0 is left", oiled(shade, 0), 1);
        c.due("0 is left, so it does not turn", oiled(shade, 1), 0);
        shade.blow(1);
        c.due("1 is left", oiled(shade, 1), 2);
    }

    private void suitFromNowOn() {
        c.promise("SUIT: what it would have had more behind QUARTER 47 without it (from now on)");
        GaleBank x = Calls.of(YARD + "owner a 0 9 50 1 9;owner d 9 9 50 1 9;vane d 4;tree 0 8;gust 0 0 2;gust 47 0 1;");
        // Shaded, a loses 2 and 1; else it has d's.
        c.due("of all", x.suit(0, 0), 6);
        c.due("d loses as much", x.suit(1, 0), 0);
        x.blow(1);
        c.due("of the last", x.suit(0, 0), 2);
        x.blow(47);
        c.due("of none", x.suit(0, 0), 0);
        GaleBank less = Calls.of(YARD + "owner a 0 9 50 1 9;owner d 9 9 50 1 9;tree 9 8;gust 47 0 2;");
        c.due("less without it", less.suit(0, 0), -2);
    }

    private int worth(GaleBank x, int o, int... pairs) {
        Calls.tape(x, Calls.bytes(pairs));
        return x.worth(o);
    }

    private void forecastFromNowOn() {
        c.promise("WORTH: ahead of each of these from now on");
        GaleBank x = Calls.of(YARD + "owner a 0 9 50 1 9;gust 0 4 3;gust 47 4 5;");
        c.due("0", worth(x, 0, 0, 4), 8);
        c.due("47", worth(x, 0, 47, 4), 5);
        x.blow(1);
        c.due("0 is gone", worth(x, 0, 0, 4), 0);
        c.due("1 is next", worth(x, 0, 1, 4), 5);
        x.blow(46);
        c.due("47 is next", worth(x, 0, 47, 4), 5);
        x.blow(1);
        c.due("47 is gone", worth(x, 0, 47, 4), 0);
        GaleBank less = Calls.of(YARD + "owner a 0 9 50 1 9;owner d 9 9 50 1 9;gust 9 0 5;");
        c.due("below 0", worth(less, 0, 9, 4), -5);
    }

    private void forecastDoesNotStick() {
        c.promise("WORTH: it is not stuck by that");
        GaleBank x = Calls.of(YARD + "owner a 0 9 50 1 0;gust 0 4 1;gust 1 5 1;");
        // By itself it turns from 0 to 1, then to 2, and loses 1 and 1.
        c.due("it turns on from 4 to 5", worth(x, 0, 0, 4), 2);
        c.due("it is as it was", x.owner(0, 5), 0);
        c.due("it is not stuck", x.owner(0, 6), 0);
    }

    private void drawsWrap() {
        c.promise("DRAWN: x * 1103515245 + 12345 (an int, wrapping), (x >>> 8) % n");
        int[] seeds = {0, 1, -1, 42, Integer.MAX_VALUE, Integer.MIN_VALUE, 0x7fffff00, 0x80000100, -12345};
        for (int seed : seeds) {
            GaleBank x = Calls.of(YARD + "owner a 0 9 500 1 9;");
            int next = seed;
            int gold = 500;
            for (int n = 1; n <= 48; n++) {
                next = next * 1103515245 + 12345;
                int force = (next >>> 8) % 10;
                if (force > 0) {
                    next = next * 1103515245 + 12345;
                    gold -= (next >>> 8) % 8 == 0 ? 0 : force;
                }
                c.due("seed " + seed + ", " + n, x.drawn(0, n, seed), gold);
            }
        }
    }

    private void drawOf0IsNoGust() {
        c.promise("DRAWN: a draw of 10 (0: no gust, else FORCE)");
        // In the first calm all gold goes to the PURSE, and no gust takes it any more.
        for (int seed = 0; seed < 20; seed++) {
            GaleBank x = Calls.of(YARD + "owner a 0 9 99 1 9;run 99 999;gust 0 4 9;");
            int next = seed;
            int has = 99;
            boolean calm = false;
            for (int n = 1; n <= 48 && has > 0; n++) {
                next = next * 1103515245 + 12345;
                int force = (next >>> 8) % 10;
                calm |= force == 0;
                if (force > 0) {
                    next = next * 1103515245 + 12345;
                    has -= calm || (next >>> 8) % 8 == 0 ? 0 : Math.min(has, force);
                }
                c.due("seed " + seed + ", " + n, x.drawn(0, n, seed), has);
            }
        }
    }

    private void wrongByTheLeastReason() {
        c.promise("ACTS of a PLAN are WRONG by the least reason");
        StringBuilder b = new StringBuilder(YARD + "owner a 0 0 5 1 1;tree 1 0;");
        for (int i = 0; i < 12; i++) {
            b.append("fence ").append(i % 10).append(' ').append(5 + i / 10).append(';');
        }
        GaleBank x = Calls.of(b.toString());
        String[] plans = {"set 0 0;", "set 1 0;", "set 0 5;", "set 9 9;", "fell 1;", "fell 0;fell 0;", "blow 48;blow 1;", "blow 48;set 9 9;"};
        int[] why = {1, 1, 1, 2, 3, 3, 4, 2};
        int[] line = {0, 0, 0, 0, 0, 1, 1, 1};
        for (int i = 0; i < plans.length; i++) {
            Calls.plan(x, plans[i]);
            c.due("the LINE of " + plans[i], x.judge(0), line[i]);
            c.due("why " + plans[i], x.judged(0), why[i]);
        }
        c.due("set on a thing, with 12 fences", x.set(0), 1);
        c.due("set elsewhere", x.set(99), 2);
    }

    private void blowNoFartherThan47() {
        c.promise("'blow' goes no farther than to it: WRONG only if none is left");
        GaleBank x = Calls.of(YARD + "owner a 0 0 5 1 1;");
        Calls.plan(x, "blow 47;blow 48;");
        c.due("one is left", x.judge(0), -1);
        c.due("the next", x.judged(2), 48);
        Calls.plan(x, "blow 48;blow 1;");
        c.due("none is left", x.judge(0), 1);
        c.due("why", x.judged(0), 4);
        x.blow(48);
        c.due("none is left at the first", x.judge(0), 0);
        c.due("LINES done", x.judged(1), 0);
    }

    private void aNewBank() {
        c.promise("A new BANK: QUARTER 0 is next, no PLAN, no SENTENCE; vanes point to 0 but as told");
        GaleBank x = Calls.of(A_AND_D + "gust 0 2 9;run 1 1;pact a d;plot a 5 5;eddy 5 5 5;tree 6 6;");
        Calls.plan(x, "oil a;");
        Calls.sentence(x, "faces");
        x.set(55);
        x.blow(9);
        x.point(0, 6);
        c.due("the same names and CELLS again", Calls.bank(x, YARD + "owner a 0 9 7 1 9;owner d 9 9 8 1 9;vane a 3;"), 4);
        int[] now = {0, 0, 15, 0, 0, 0, -1, 0};
        for (int what = 0; what < now.length; what++) {
            c.due("now " + what, x.now(what), now[what]);
        }
        c.due("no PLAN", x.count(7), 0);
        c.due("no SENTENCE", x.said(-1), -1);
        c.due("a as told", x.owner(0, 5), 3);
        c.due("a is free", x.owner(0, 6), 0);
        c.due("d to 0", x.owner(1, 5), 0);
        int[] told = {90, 7, 0, 1, 9, 3, 0, -1, -1, 0, 0};
        for (int what = 0; what < told.length; what++) {
            c.due("owner 0 " + what, x.owner(0, what), told[what]);
        }
        c.due("no fence", x.cell(55, 0), 0);
        c.due("no eddy", x.cell(55, 2), 0);
        c.due("no gust", x.gust(0, 0), -1);
        c.due("no run", x.count(5) + x.count(6), 0);
        c.due("nothing to undo", x.undo(), -1);
    }

    private void nothingOfOlderBanks() {
        c.promise("A new BANK: nothing of an older one, nor of one with a FAULT");
        String full = "yard 5 4;owner a 0 3 50 2 3;owner b 4 3 40 9 9;vane a 6;vane b 3;tree 0 2;tree 4 1;fence 3 0;fence 2 0;eddy 0 3 2;eddy 3 3 1;"
                + "gust 0 0 5;gust 3 4 9;gust 8 1 7;gust 40 6 9;run 2 3;pact a b;pact b a;plot b 2 2;plot a 1 1;";
        String small = "yard 3 2;owner b 0 0 5 1 1;owner a 1 0 5 3 1;tree 2 1;gust 1 1 1;";
        String runs = small + "run 2 3;";
        for (String text : new String[] {"", small, runs}) {
            String fresh = Calls.all(Calls.of(text));
            GaleBank faulty = new GaleBank();
            c.due("a FAULT at its end", Calls.bank(faulty, full + "#"), -1 - full.length());
            c.due("an empty BANK still", faulty.count(2), 0);
            Calls.bank(faulty, text);
            c.same("behind a FAULT", Calls.all(faulty), fresh);
            GaleBank third = new GaleBank();
            Calls.bank(third, full);
            third.blow(48);
            Calls.bank(third, full);
            third.blow(48);
            c.due("b lost", third.owner(1, 9) > 0, true);
            c.due("a had", third.owner(0, 10) > 0, true);
            Calls.bank(third, text);
            c.same("the third", Calls.all(third), fresh);
        }
        GaleBank again = new GaleBank();
        Calls.bank(again, full + "#");
        c.due("what was told once may be told anew", Calls.bank(again, full), 20);
        c.due("and anew", Calls.bank(again, full), 20);
        c.due("and anew", Calls.bank(again, full), 20);
        GaleBank order = new GaleBank();
        Calls.bank(order, three(1, 2, 3) + "run 5 5;#");
        Calls.bank(order, three(3, 2, 1) + "run 5 5;");
        order.blow(1);
        c.due("its own order in RUNS", order.owner(0, 2), 5);
        StringBuilder most = new StringBuilder("yard 9 9;");
        for (int i = 0; i < 8; i++) {
            most.append("owner ").append((char) ('a' + i)).append(' ').append(i).append(" 0 1 1 1;eddy ").append(i).append(" 0 1;");
        }
        for (int i = 0; i < 24; i++) {
            most.append(i < 12 ? "tree " : "fence ").append(i % 8).append(' ').append(1 + i / 8).append(';');
        }
        StringBuilder gusts = new StringBuilder();
        for (int i = 0; i < 30; i++) {
            gusts.append("gust ").append(i).append(" 0 1;");
        }
        for (int i = 0; i < 4; i++) {
            c.due("the most of things, anew", Calls.bank(order, most.toString()), 41);
            c.due("the most of gusts, anew", Calls.bank(order, gusts.toString()), 30);
            c.due("the most of gusts, and a FAULT", Calls.bank(order, gusts + "#"), -1 - gusts.length());
            c.due("the most of things, and a FAULT", Calls.bank(order, most + "#"), -1 - most.length());
        }
    }

    private void aCallThatThrows() {
        c.promise("A call that throws changes nothing");
        GaleBank x = Calls.of(A_AND_D + "tree 6 6;gust 0 2 9;");
        x.blow(1);
        x.feed(1, 2, 3, 4, 5);
        int[] wrong = {-1, 2, 100, Integer.MIN_VALUE, Integer.MAX_VALUE};
        for (int n : wrong) {
            c.dueThrow("owner " + n, () -> x.owner(n, 0));
            c.dueThrow("owner 0 " + n, () -> x.owner(0, n == 2 ? 11 : n));
            c.dueThrow("cell " + n, () -> x.cell(n == 2 ? 101 : n, 0));
            c.dueThrow("cell 0 " + n, () -> x.cell(0, n == 2 ? 3 : n));
        }
        c.due("the tape", x.count(8), 20);
        c.due("QUARTER", x.now(0), 1);
        c.due("gold", x.now(2), 82);
        c.due("undo", x.undo(), 0);
    }
}
