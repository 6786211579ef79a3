/** Part 1 of the terms, sentence by sentence: the edges of tokens, banks, plans, sentences and of their faults. */
public final class EdgeTextTest {
    private static final String YARD = "yard 10 10;";
    private static final String ONE = YARD + "owner a 0 0 1 1 1;";
    private static final String TWO = ONE + "owner b 1 0 1 1 1;";

    private final Calls c = new Calls();

    public static void main(String[] args) {
        EdgeTextTest test = new EdgeTextTest();
        test.words();
        test.numbers();
        test.blanks();
        test.marks();
        test.runsOfLettersAndDigits();
        test.bankBytes();
        test.planBytes();
        test.sentenceBytes();
        test.tokensReadWhole();
        test.faultAtTheEnd();
        test.yard();
        test.yardOnceAndAhead();
        test.gold();
        test.share();
        test.stick();
        test.vaneDir();
        test.vaneOnce();
        test.turn();
        test.quarter();
        test.quarterOnce();
        test.gustDir();
        test.force();
        test.pact();
        test.plot();
        test.run();
        test.placesInTheYard();
        test.oneThingOnACell();
        test.names();
        test.eightOwners();
        test.twelveTrees();
        test.twelveFences();
        test.eightEddies();
        test.thirtyGusts();
        test.cellsAreTold();
        test.planLines();
        test.planNumbers();
        test.planOwners();
        test.twentyOnes();
        test.eightWithin();
        test.sentenceNumbers();
        test.firstAlongTheText();
        test.leastOfOneToken();
        test.emptyTexts();
        test.linesThatCantCome();
        test.numbersInAWordsPlace();
        test.onesThatCantCome();
        test.partsOfALineThatCantCome();
        test.c.finish();
    }

    private void sound(String text, int lines) {
        GaleBank x = new GaleBank();
        c.due("bank " + text, Calls.bank(x, text), lines);
        c.due("its fault " + text, x.fault(), 0);
    }

    /** A fault is at the last | of a text, which is taken out. */
    private void fault(String marked, int kind) {
        GaleBank x = new GaleBank();
        c.due("bank " + marked, Calls.bank(x, unmarked(marked)), -1 - marked.lastIndexOf('|'));
        c.due("its fault " + marked, x.fault(), kind);
    }

    private void soundPlan(String text, int lines) {
        GaleBank x = Calls.of(TWO);
        c.due("plan " + text, Calls.plan(x, text), lines);
        c.due("its fault " + text, x.fault(), 0);
    }

    private void faultyPlan(String marked, int kind) {
        GaleBank x = Calls.of(TWO);
        c.due("plan " + marked, Calls.plan(x, unmarked(marked)), -1 - marked.lastIndexOf('|'));
        c.due("its fault " + marked, x.fault(), kind);
    }

    private void soundSentence(String text, int ones) {
        GaleBank x = new GaleBank();
        c.due("sentence " + text, Calls.sentence(x, text), ones);
        c.due("its fault " + text, x.fault(), 0);
    }

    private void faultySentence(String marked, int kind) {
        GaleBank x = new GaleBank();
        c.due("sentence " + marked, Calls.sentence(x, unmarked(marked)), -1 - marked.lastIndexOf('|'));
        c.due("its fault " + marked, x.fault(), kind);
    }

    private static String unmarked(String marked) {
        int at = marked.lastIndexOf('|');
        return marked.substring(0, at) + marked.substring(at + 1);
    }

    private static String blanks(int n) {
        return " ".repeat(n);
    }

    // ---- tokens ----

    private void words() {
        c.promise("WORDS: small letters, 1 to 6");
        sound(YARD + "owner a 0 0 1 1 1;", 2);
        sound(YARD + "owner zzzzzz 0 0 1 1 1;", 2);
        fault(YARD + "owner |zzzzzzz 0 0 1 1 1;", 1);
        fault(YARD + "owner |A 0 0 1 1 1;", 1);
        fault(YARD + "owner |` 0 0 1 1 1;", 1);
        fault(YARD + "owner |{ 0 0 1 1 1;", 1);
        fault(YARD + "owner z|A 0 0 1 1 1;", 1);
        // Six letters are told apart to the last one, and a shorter name from a longer.
        sound(YARD + "owner zzzzzy 0 0 1 1 1;owner zzzzzz 1 0 1 1 1;owner zzzzz 2 0 1 1 1;", 4);
    }

    private void numbers() {
        c.promise("NUMBERS: 1 to 3 digits");
        sound("run 9 999;", 1);
        sound("run 009 009;", 1);
        sound("run 000 000;", 1);
        fault("run 9 |9999;", 1);
        fault("run |0009 9;", 1);
        fault("run 9 |0000;", 1);
        fault("run |/ 9;", 1);
        fault("run |: 9;", 1);
        fault("run |-1 9;", 1);
        fault("run 9|.5;", 1);
    }

    private void blanks() {
        c.promise("blanks (32, 10) between them or not");
        sound("\n yard \n 2\n2 \n;\n ", 1);
        sound("yard 2 2;run 9 9;tree 0 0;", 3);
        for (int sign = 0; sign < 256; sign++) {
            GaleBank x = new GaleBank();
            int answer = Calls.bank(x, "run 1 1" + (char) sign + ";");
            if (sign == 32 || sign == 10) {
                c.due("blank " + sign, answer, 1);
            } else if (sign != ';' && !(sign >= '0' && sign <= '9') && !(sign >= 'a' && sign <= 'z')) {
                c.due("no blank " + sign, answer, -8);
                c.due("its fault " + sign, x.fault(), 1);
            }
        }
        soundSentence("gold<1 and(purse>2)or not(dir=3)", 6);
        faultySentence("|notfaces", 1);
    }

    private void marks() {
        c.promise("; < = > ( )");
        soundPlan("oil a;oil b;", 2);
        for (char mark : "<=>()".toCharArray()) {
            faultyPlan("oil a|" + mark, 1);
        }
        soundSentence("(gold<1)", 2);
        soundSentence("(gold=1)", 2);
        soundSentence("(gold>1)", 2);
        faultySentence("(gold|;1)", 1);
        faultySentence("(gold>|=1)", 1);
        faultySentence("(gold>1|;", 1);
    }

    private void runsOfLettersAndDigits() {
        c.promise("A WORD, NUMBER goes on as long as small letters and digits do");
        fault("|yard2 2;", 1);
        fault("yard |2x 2;", 1);
        fault("yard |2a2;", 1);
        fault(YARD + "owner |a0 0 0 1 1 1;", 1);
        fault("|2yard 2 2;", 1);
        faultySentence("|gold1>1", 1);
        faultySentence("gold>|1and faces", 1);
        // Ended by a mark they are apart.
        sound("yard 2 2;run 1 1;", 2);
    }

    // ---- how long texts may be ----

    private void bankBytes() {
        c.promise("A BANK is a text of at most 900 bytes");
        sound("yard 2 2;" + blanks(891), 1);
        sound(blanks(891) + "yard 2 2;", 1);
        fault("yard 2 2;" + blanks(891) + "| ", 1);
        fault("yard 2 2;" + blanks(891) + "|" + blanks(40), 1);
        fault(blanks(892) + "yard 2 2|;", 1);
        fault(blanks(900) + "|;", 1);
        fault("yard 2 2;" + blanks(890) + "|;;", 1);
        fault("yard 2 |1;" + blanks(910), 2);
    }

    private void planBytes() {
        c.promise("A PLAN is a text of at most 400 bytes");
        soundPlan("oil a;" + blanks(394), 1);
        soundPlan(blanks(394) + "oil a;", 1);
        faultyPlan("oil a;" + blanks(394) + "| ", 1);
        faultyPlan("oil a;" + blanks(394) + "|" + blanks(540), 1);
        faultyPlan(blanks(395) + "oil a|;", 1);
        faultyPlan("blow |0;" + blanks(500), 2);
    }

    private void sentenceBytes() {
        c.promise("A SENTENCE is a text of at most 200 bytes");
        soundSentence("faces" + blanks(195), 1);
        soundSentence(blanks(195) + "faces", 1);
        faultySentence("faces" + blanks(195) + "| ", 1);
        faultySentence("faces" + blanks(195) + "|" + blanks(740), 1);
        faultySentence(blanks(200) + "|faces", 1);
        faultySentence("faces |faces" + blanks(500), 1);
    }

    private void tokensReadWhole() {
        c.promise("TOKENS that begin ahead of it are read whole");
        // The last token's first byte is the 900th: its whole counts, and the excess is the fault behind it.
        fault(blanks(892) + "yard 2 1|0;", 1);
        fault(blanks(892) + "yard 2 |11;", 2);
        fault(blanks(892) + "yard 2 |1000;", 1);
        fault(blanks(892) + "yard 2 |1x;", 1);
        fault(blanks(893) + "yard 2 |11;", 1);
        faultyPlan(blanks(394) + "blow |49;", 2);
        faultyPlan(blanks(395) + "blow |49;", 1);
        faultyPlan(blanks(394) + "blow 4|8;", 1);
        faultySentence(blanks(199) + "|facesx", 1);
        faultySentence(blanks(199) + "f|aces", 1);
        faultySentence(blanks(199) + "|owner", 1);
        faultySentence(blanks(194) + "gold>|1000", 1);
        faultySentence(blanks(194) + "gold>1|00", 1);
    }

    private void faultAtTheEnd() {
        c.promise("FAULT 1 at the end: how many bytes there are");
        fault("yard|", 1);
        fault("yard 2 2|", 1);
        fault("yard 2 2 \n |", 1);
        fault("yard 2 2" + blanks(892) + "|", 1);
        faultyPlan("oil|", 1);
        faultyPlan("oil a  |", 1);
        faultyPlan("oil a" + blanks(395) + "|", 1);
        faultySentence("|", 1);
        faultySentence("not  |", 1);
        faultySentence("(faces" + blanks(194) + "|", 1);
    }

    // ---- the lines of a bank ----

    private void yard() {
        c.promise("'yard' W H (2 to 10 both)");
        for (int n = 0; n <= 12; n++) {
            boolean told = n >= 2 && n <= 10;
            if (told) {
                GaleBank x = Calls.of("yard " + n + " 2;");
                c.due("W " + n, x.count(0), n);
                GaleBank y = Calls.of("yard 2 " + n + ";");
                c.due("H " + n, y.count(1), n);
            } else {
                fault("yard |" + n + " 2;", 2);
                fault("yard 2 |" + n + ";", 2);
            }
        }
        fault("yard |999 2;", 2);
    }

    private void yardOnceAndAhead() {
        c.promise("'yard' once, ahead of all that has X and Y");
        fault("yard 2 2;|yard 2 2;", 3);
        fault("yard 2 2;gust 0 0 1;|yard 3 3;", 3);
        fault("owner a |0 0 1 1 1;yard 2 2;", 2);
        fault("tree |0 0;yard 2 2;", 2);
        fault("fence |0 0;yard 2 2;", 2);
        fault("eddy |0 0 1;yard 2 2;", 2);
        // What has no X and Y may come ahead of it, and a bank needs none.
        sound("gust 0 0 1;run 1 1;yard 2 2;tree 1 1;", 4);
        sound("gust 0 0 1;run 1 1;", 2);
    }

    private void gold() {
        c.promise("GOLD (0 to 999)");
        c.due("0", Calls.of(YARD + "owner a 0 0 0 1 1;").owner(0, 1), 0);
        c.due("999", Calls.of(YARD + "owner a 0 0 999 1 1;").owner(0, 1), 999);
        fault(YARD + "owner a 0 0 |1000 1 1;", 1);
    }

    private void share() {
        c.promise("SHARE (1 to 99)");
        c.due("1", Calls.of(YARD + "owner a 0 0 1 1 1;").owner(0, 3), 1);
        c.due("99", Calls.of(YARD + "owner a 0 0 1 99 1;").owner(0, 3), 99);
        fault(YARD + "owner a 0 0 1 |0 1;", 2);
        fault(YARD + "owner a 0 0 1 |100 1;", 2);
    }

    private void stick() {
        c.promise("STICK (0 to 9)");
        c.due("0", Calls.of(YARD + "owner a 0 0 1 1 0;").owner(0, 4), 0);
        c.due("9", Calls.of(YARD + "owner a 0 0 1 1 9;").owner(0, 4), 9);
        fault(YARD + "owner a 0 0 1 1 |10;", 2);
    }

    private void vaneDir() {
        c.promise("DIR: 0 to 7 (of a vane; 0 without)");
        for (int dir = 0; dir < 8; dir++) {
            c.due("vane " + dir, Calls.of(ONE + "vane a " + dir + ";").owner(0, 5), dir);
        }
        c.due("0 without", Calls.of(ONE).owner(0, 5), 0);
        fault(ONE + "vane a |8;", 2);
        fault(ONE + "vane a |999;", 2);
    }

    private void vaneOnce() {
        c.promise("'vane' each OWNER once");
        sound(TWO + "vane a 0;vane b 0;", 5);
        fault(TWO + "vane a 0;vane |a 0;", 3);
        fault(TWO + "vane b 7;vane a 1;vane |b 7;", 3);
    }

    private void turn() {
        c.promise("TURN (1 to 7)");
        c.due("1", Calls.of(YARD + "eddy 9 9 1;").cell(99, 2), 1);
        c.due("7", Calls.of(YARD + "eddy 9 9 7;").cell(99, 2), 7);
        fault(YARD + "eddy 9 9 |0;", 2);
        fault(YARD + "eddy 9 9 |8;", 2);
    }

    private void quarter() {
        c.promise("QUARTER (0 to 47)");
        c.due("0", Calls.of("gust 0 1 2;").gust(0, 1), 2);
        c.due("47", Calls.of("gust 47 1 2;").gust(47, 1), 2);
        fault("gust |48 1 2;", 2);
    }

    private void quarterOnce() {
        c.promise("'gust' each QUARTER once");
        sound("gust 0 0 1;gust 1 0 1;gust 47 0 1;gust 46 0 1;", 4);
        fault("gust 0 0 1;gust |0 0 1;", 3);
        fault("gust 47 0 1;gust 0 0 1;gust |47 7 9;", 3);
    }

    private void gustDir() {
        c.promise("DIR: 0 to 7 (of a gust)");
        for (int dir = 0; dir < 8; dir++) {
            c.due("gust " + dir, Calls.of("gust 3 " + dir + " 1;").gust(3, 0), dir);
        }
        fault("gust 3 |8 1;", 2);
    }

    private void force() {
        c.promise("FORCE (1 to 9)");
        c.due("1", Calls.of("gust 3 0 1;").gust(3, 1), 1);
        c.due("9", Calls.of("gust 3 0 9;").gust(3, 1), 9);
        fault("gust 3 0 |0;", 2);
        fault("gust 3 0 |10;", 2);
    }

    private void pact() {
        c.promise("'pact' OWNER OWNER (unlike; the first of each once)");
        String three = TWO + "owner d 2 0 1 1 1;";
        GaleBank x = Calls.of(three + "pact a b;pact b a;pact d a;");
        c.due("a's", x.owner(0, 7), 1);
        c.due("b's", x.owner(1, 7), 0);
        c.due("d's: one may be the second of many", x.owner(2, 7), 0);
        fault(three + "pact a |a;", 3);
        fault(three + "pact d |d;", 3);
        fault(three + "pact a b;pact |a d;", 3);
        fault(three + "pact a b;pact |a b;", 3);
        fault(three + "pact |c a;", 3);
        fault(three + "pact a |c;", 3);
    }

    private void plot() {
        c.promise("'plot' OWNER X Y (each OWNER once)");
        GaleBank x = Calls.of(TWO + "plot a 0 0;plot b 9 9;");
        c.due("the first CELL, with a thing on it", x.owner(0, 8), 0);
        c.due("the last CELL", x.owner(1, 8), 99);
        fault(TWO + "plot a 0 0;plot |a 1 1;", 3);
        fault(TWO + "plot a 0 0;plot b 1 1;plot |b 2 2;", 3);
        fault(TWO + "plot |c 0 0;", 3);
    }

    private void run() {
        c.promise("'run' EACH CASH (0 to 99; 0 to 999; once; 0 0 without)");
        GaleBank least = Calls.of("run 0 0;");
        c.due("EACH 0", least.count(5), 0);
        c.due("CASH 0", least.count(6), 0);
        GaleBank most = Calls.of("run 99 999;");
        c.due("EACH 99", most.count(5), 99);
        c.due("CASH 999", most.count(6), 999);
        fault("run |100 0;", 2);
        fault("run 0 |1000;", 1);
        fault("run 0 0;|run 0 0;", 3);
        fault("run 9 9;yard 2 2;|run 1 1;", 3);
        GaleBank without = Calls.of("yard 2 2;");
        c.due("EACH without", without.count(5), 0);
        c.due("CASH without", without.count(6), 0);
    }

    private void placesInTheYard() {
        c.promise("X from 0, below W, Y from 0, below H");
        for (int w = 2; w <= 10; w++) {
            String yard = "yard " + w + " " + (12 - w) + ";";
            int right = w - 1;
            int south = 11 - w;
            sound(yard + "tree 0 0;tree " + right + " " + south + ";", 3);
            sound(yard + "fence 0 0;fence " + right + " " + south + ";", 3);
            sound(yard + "eddy 0 0 1;eddy " + right + " " + south + " 1;", 3);
            sound(yard + "owner a 0 0 1 1 1;owner b " + right + " " + south + " 1 1 1;", 3);
            sound(yard + "owner a 1 1 1 1 1;plot a " + right + " " + south + ";", 3);
            for (String word : new String[] {"tree ", "fence ", "eddy ", "owner a ", "owner a 1 1 1 1 1;plot a "}) {
                fault(yard + word + "|" + w + " 0;", 2);
                fault(yard + word + right + " |" + (12 - w) + ";", 2);
            }
        }
    }

    private void oneThingOnACell() {
        c.promise("On a CELL there is one thing at most (an eddy and a plot come besides, each once on a CELL)");
        String[] things = {"owner b 4 |5 1 1 1;", "tree 4 |5;", "fence 4 |5;"};
        for (String first : things) {
            for (String second : things) {
                fault(ONE + first.replace("|", "") + second.replace("owner b", "owner d"), 3);
            }
            sound(ONE + first.replace("|", "") + "eddy 4 5 1;plot a 4 5;", 5);
            sound(ONE + "eddy 4 5 1;plot a 4 5;" + first.replace("|", ""), 5);
        }
        fault(ONE + "eddy 4 5 1;eddy 4 |5 1;", 3);
        fault(TWO + "plot a 4 5;plot b 4 |5;", 3);
        sound(TWO + "plot a 4 5;plot b 5 4;eddy 4 5 1;eddy 5 4 1;", 7);
    }

    private void names() {
        c.promise("NAME: a WORD, none of those told here, in a PLAN or in a SENTENCE; told once");
        String words = "yard owner vane tree fence eddy gust pact plot run set fell oil point blow or and not faces gold purse stick dir place";
        for (String word : words.split(" ")) {
            fault(YARD + "owner |" + word + " 0 0 1 1 1;", 1);
            sound(YARD + "owner " + word + "x 0 0 1 1 1;", 2);
            sound(YARD + "owner " + word.substring(1) + " 0 0 1 1 1;", 2);
        }
        fault(ONE + "owner |a 1 0 1 1 1;", 3);
        fault(TWO + "owner |b 2 0 1 1 1;", 3);
        sound(ONE + "owner aa 1 0 1 1 1;", 3);
    }

    // ---- how many there may be ----

    private static String owners(int n) {
        StringBuilder b = new StringBuilder(YARD);
        for (int i = 0; i < n; i++) {
            b.append("owner ").append((char) ('a' + i)).append(' ').append(i).append(" 0 1 1 1;");
        }
        return b.toString();
    }

    private static String cells(String word, int n, String behind) {
        StringBuilder b = new StringBuilder(YARD);
        for (int i = 0; i < n; i++) {
            b.append(word).append(i % 10).append(' ').append(5 + i / 10).append(behind);
        }
        return b.toString();
    }

    private void eightOwners() {
        c.promise("8 OWNERS at most; FAULT 4 at a ninth's first WORD");
        GaleBank x = Calls.of(owners(8));
        c.due("eight", x.count(2), 8);
        c.due("numbered from 0", x.cell(0, 1), 0);
        c.due("to 7", x.cell(7, 1), 7);
        fault(owners(8) + "|owner i 8 0 1 1 1;", 4);
        fault(owners(8) + "|owner a 8 0 1 1 1;", 4);
        fault(owners(8) + "|owner set 8 0 1 1 1;", 4);
    }

    private void twelveTrees() {
        c.promise("12 trees at most; FAULT 4 at a 13th's first WORD");
        GaleBank x = Calls.of(cells("tree ", 12, ";"));
        c.due("twelve", x.count(3), 12);
        c.due("numbered from 0", x.cell(50, 1), 0);
        c.due("to 11", x.cell(61, 1), 11);
        fault(cells("tree ", 12, ";") + "|tree 9 9;", 4);
        fault(cells("tree ", 12, ";") + "|tree 0 5;", 4);
    }

    private void twelveFences() {
        c.promise("12 fences at most; FAULT 4 at a 13th's first WORD");
        c.due("twelve", Calls.of(cells("fence ", 12, ";")).now(4), 12);
        fault(cells("fence ", 12, ";") + "|fence 9 9;", 4);
        fault(cells("fence ", 12, ";") + "|fence 0 5;", 4);
        sound(cells("fence ", 12, ";") + "tree 9 9;", 14);
    }

    private void eightEddies() {
        c.promise("8 eddies at most; FAULT 4 at a ninth's first WORD");
        c.due("the eighth", Calls.of(cells("eddy ", 8, " 3;")).cell(57, 2), 3);
        fault(cells("eddy ", 8, " 3;") + "|eddy 9 9 1;", 4);
        fault(cells("eddy ", 8, " 3;") + "|eddy 0 5 1;", 4);
    }

    private void thirtyGusts() {
        c.promise("30 gusts at most; FAULT 4 at a 31st's first WORD");
        StringBuilder b = new StringBuilder();
        for (int quarter = 0; quarter < 30; quarter++) {
            b.append("gust ").append(47 - quarter).append(" 7 9;");
        }
        GaleBank x = Calls.of(b.toString());
        c.due("thirty", x.count(4), 30);
        c.due("the last told", x.gust(18, 0), 7);
        fault(b + "|gust 0 0 1;", 4);
        fault(b + "|gust 47 0 1;", 4);
    }

    private void cellsAreTold() {
        c.promise("CELLS are also told as 10 times Y and X");
        GaleBank x = Calls.of("yard 2 10;owner a 1 0 1 1 1;tree 0 1;fence 1 9;");
        c.due("a", x.cell(1, 0), 1);
        c.due("the tree", x.cell(10, 0), 2);
        c.due("the fence", x.cell(91, 0), 3);
        c.due("a's CELL", x.owner(0, 0), 1);
    }

    // ---- plans ----

    private void planLines() {
        c.promise("a PLAN has 30 LINES at most; FAULT 4 at a 31st's first WORD");
        soundPlan("blow 1;".repeat(30), 30);
        faultyPlan("blow 1;".repeat(30) + "|blow 1;", 4);
        faultyPlan("blow 1;".repeat(30) + "|blow 0;", 4);
        faultyPlan("blow 1;".repeat(30) + "|blow", 4);
        faultyPlan("blow 1;".repeat(30) + "|gust", 1);
    }

    private void planNumbers() {
        c.promise("the NUMBERS of a PLAN: X, Y, DIR, N (1 to 48)");
        soundPlan("blow 1;blow 48;", 2);
        faultyPlan("blow |0;", 2);
        faultyPlan("blow |49;", 2);
        soundPlan("set 0 0;set 9 9;", 2);
        faultyPlan("set |10 0;", 2);
        faultyPlan("set 0 |10;", 2);
        soundPlan("point a 0;point b 7;", 2);
        faultyPlan("point a |8;", 2);
        soundPlan("fell 0;fell 11;fell 12;fell 999;", 4);
        faultyPlan("fell |1000;", 1);
        GaleBank none = new GaleBank();
        c.due("X without a yard", Calls.plan(none, "set 0 0;"), -5);
        c.due("X without a yard", none.fault(), 2);
    }

    private void planOwners() {
        c.promise("a NAME not told, in a PLAN");
        soundPlan("oil a;oil b;", 2);
        faultyPlan("oil |d;", 3);
        faultyPlan("oil |ab;", 3);
        faultyPlan("point |d 0;", 3);
        faultyPlan("oil |oil;", 1);
        faultyPlan("point |0 0;", 1);
    }

    // ---- sentences ----

    private void twentyOnes() {
        c.promise("20 ONES; FAULT 4 at a 21st's first TOKEN");
        soundSentence("faces" + " and faces".repeat(19), 20);
        faultySentence("dir=1" + " or dir=1".repeat(19) + " or |dir=1", 4);
        faultySentence("dir=1" + " or dir=1".repeat(19) + " or |not dir=1", 4);
        faultySentence("dir=1" + " or dir=1".repeat(19) + " or |(dir=1)", 4);
        // A 'not' and a bracket are ONES, too.
        soundSentence("not(dir=1)" + "or(dir=1)".repeat(8) + "or dir=1", 20);
        faultySentence("not(dir=1)" + "or(dir=1)".repeat(8) + "or not |dir=1", 4);
        faultySentence("not(dir=1)" + "or(dir=1)".repeat(8) + "or(|dir=1)", 4);
    }

    private void eightWithin() {
        c.promise("8 within one another; FAULT 4 at a ninth's first TOKEN");
        soundSentence("not ".repeat(7) + "faces", 8);
        soundSentence("(".repeat(7) + "faces" + ")".repeat(7), 8);
        soundSentence("not(".repeat(3) + "not faces" + ")".repeat(3), 8);
        faultySentence("not ".repeat(8) + "|faces", 4);
        faultySentence("(".repeat(8) + "|faces" + ")".repeat(8), 4);
        faultySentence("not(".repeat(4) + "|faces" + ")".repeat(4), 4);
        faultySentence("not(".repeat(4) + "|(faces", 4);
        // Those beside one another are not within: behind a bracket's end there is room again.
        soundSentence("(((((((dir=1 or dir=2 or dir=3)))))))and not not not not not not not faces", 18);
        faultySentence("(((((((dir=1)))))))and not not not not not not not not |faces", 4);
    }

    private void sentenceNumbers() {
        c.promise("a SENTENCE's NUMBER is any");
        for (String field : new String[] {"gold", "purse", "stick", "dir", "place"}) {
            soundSentence(field + "<0", 1);
            soundSentence(field + ">999", 1);
            faultySentence(field + "=|1000", 1);
        }
    }

    // ---- which fault ----

    private void firstAlongTheText() {
        c.promise("FAULTS, the first along the text");
        fault("yard |1 2;yard 2 2;#", 2);
        fault(ONE + "owner |a 9 99 1 0 1;", 3);
        fault(ONE + "owner b |10 0 1 0 1;", 2);
        fault(ONE + "owner b 0 |0 1 0 1;", 3);
        fault(ONE + "owner b 1 0 1 |0 10;", 2);
        fault(ONE + "pact a |a", 3);
        fault(ONE + "vane |b 9", 3);
        fault("gust 0 0 1;gust |0 9 0", 3);
        faultyPlan("oil |d;blow 0;", 3);
        faultyPlan("blow |0;oil d;", 2);
    }

    private void leastOfOneToken() {
        c.promise("of one TOKEN the least");
        // Y is out of the yard, or no NUMBER, where a thing's CELL would be looked at.
        fault(ONE + "tree 0 |10;", 2);
        fault(ONE + "tree 0 |x;", 1);
        // A first of a pact that is told again and unknown seconds; a second like the first that is not told.
        fault(ONE + "pact |z z;", 3);
        // A 31st LINE whose WORD can't come, a 21st ONE that can't come, a ninth within that can't come.
        faultyPlan("oil a;".repeat(30) + "|x", 1);
        faultySentence("faces" + " or faces".repeat(19) + " or |5", 1);
        faultySentence("not ".repeat(8) + "|or", 1);
        // A second yard beside a missing W: the WORD is first along the text.
        fault(YARD + "|yard;", 3);
    }

    private void emptyTexts() {
        c.promise("{ LINE ; }: none is a text, too");
        sound("", 0);
        sound("\n", 0);
        sound(blanks(900), 0);
        soundPlan("", 0);
        soundPlan(blanks(400), 0);
        fault("|;", 1);
        faultyPlan("|;", 1);
        faultySentence(blanks(200) + "|", 1);
    }

    // ---- tokens that can't come ----

    private static final String BANK_WORDS = "yard owner vane tree fence eddy gust pact plot run";
    private static final String PLAN_WORDS = "set fell oil point blow";
    private static final String JOINTS = "or and";
    private static final String ONE_WORDS = "not faces gold purse stick dir place";

    private static String[] words(String... rows) {
        return String.join(" ", rows).split(" ");
    }

    private void linesThatCantCome() {
        c.promise("FAULT 1 a TOKEN that can't come: a LINE's first");
        for (String word : words(PLAN_WORDS, JOINTS, ONE_WORDS)) {
            fault("|" + word + ";", 1);
            fault(TWO + "|" + word + " 1 1;", 1);
            fault(TWO + "|" + word + " a 1;", 1);
        }
        for (String word : words(BANK_WORDS, JOINTS, ONE_WORDS)) {
            faultyPlan("|" + word + ";", 1);
            faultyPlan("oil a;|" + word + " 1;", 1);
            faultyPlan("oil a;|" + word + " a;", 1);
            faultyPlan("oil a;|" + word + " 1 1;", 1);
        }
        fault(TWO + "|a 1 1;", 1);
        faultyPlan("|a;", 1);
        fault(TWO + "|(tree 5 5);", 1);
        faultyPlan("|(oil a);", 1);
        faultyPlan("oil a;|;", 1);
    }

    private void numbersInAWordsPlace() {
        c.promise("FAULT 1 a TOKEN that can't come: a NUMBER in a WORD's place");
        for (int n = 0; n < 70; n++) {
            fault(TWO + "|" + n + " 5 5;", 1);
            fault(TWO + "|" + n + " a 5;", 1);
            faultyPlan("|" + n + " 5;", 1);
            faultyPlan("|" + n + " a;", 1);
            faultySentence("|" + n + "", 1);
            faultySentence("|" + n + " faces", 1);
            faultySentence("|" + n + "=1", 1);
            faultySentence("faces |" + n + " faces", 1);
            fault(TWO + "vane |" + n + " 5;", 1);
            fault(YARD + "owner |" + n + " 5 5 1 1 1;", 1);
        }
    }

    private void onesThatCantCome() {
        c.promise("FAULT 1 a TOKEN that can't come: in a SENTENCE");
        for (String word : words(BANK_WORDS, PLAN_WORDS, JOINTS, "a")) {
            faultySentence("|" + word, 1);
            faultySentence("|" + word + "=1", 1);
            faultySentence("not |" + word, 1);
            faultySentence("(|" + word + ")", 1);
            faultySentence("faces and |" + word, 1);
            faultySentence("faces or |" + word, 1);
        }
        for (String word : words(BANK_WORDS, PLAN_WORDS, ONE_WORDS, "a", ";", "<", "=", ">", "(", ")", "7")) {
            faultySentence("faces |" + word, 1);
            faultySentence("gold=1 |" + word + " 1", 1);
        }
        for (String field : words("gold purse stick dir place")) {
            faultySentence(field + "|", 1);
            faultySentence(field + " |5", 1);
            faultySentence(field + " |and faces", 1);
            faultySentence(field + " |(=5)", 1);
            faultySentence(field + "=|", 1);
            faultySentence(field + "=|=5", 1);
            faultySentence(field + "<|a", 1);
            faultySentence(field + ">|" + field, 1);
        }
        faultySentence("faces|=1", 1);
        faultySentence("(|)", 1);
        faultySentence("(faces|;", 1);
        faultySentence("(faces or|", 1);
        faultySentence("not not|", 1);
        faultySentence("((faces)|", 1);
        faultySentence("(faces)|)", 1);
        faultySentence("|)", 1);
        faultySentence("|=", 1);
    }

    private void partsOfALineThatCantCome() {
        c.promise("FAULT 1 a TOKEN that can't come: a LINE's part left out, or one too many");
        String[] lines = {"yard 9 9", "owner d 5 5 1 1 1", "vane a 1", "tree 5 5", "fence 5 5", "eddy 5 5 1", "gust 0 0 1", "pact a b", "plot a 5 5", "run 1 1"};
        for (String line : lines) {
            String ahead = line.startsWith("yard") ? "" : TWO;
            for (int at = line.indexOf(' '); at >= 0; at = line.indexOf(' ', at + 1)) {
                fault(ahead + line.substring(0, at) + "|;", 1);
                fault(ahead + line.substring(0, at) + "|", 1);
                fault(ahead + line.substring(0, at) + " |)", 1);
            }
            fault(ahead + line + "|", 1);
            fault(ahead + line + " |1;", 1);
            fault(ahead + line + " |a;", 1);
            fault(ahead + line + " |tree 5 6;", 1);
        }
        for (String line : new String[] {"set 5 5", "fell 0", "oil a", "point a 1", "blow 1"}) {
            for (int at = line.indexOf(' '); at >= 0; at = line.indexOf(' ', at + 1)) {
                faultyPlan(line.substring(0, at) + "|;", 1);
                faultyPlan(line.substring(0, at) + "|", 1);
            }
            faultyPlan(line + "|", 1);
            faultyPlan(line + " |1;", 1);
            faultyPlan(line + " |b;", 1);
            faultyPlan(line + " |oil a;", 1);
        }
    }
}
