import java.util.NoSuchElementException;

/** A bank whose gold moves by wind; DOC.md numbers the promises that this class keeps. */
public final class GaleBank {
    public static final int NONE = -1;

    private static final int TAPE_BYTES = 940;
    private static final int FEED_BYTES = 20;
    private static final int BANK_BYTES = 900;
    private static final int PLAN_BYTES = 400;
    private static final int SENTENCE_BYTES = 200;

    private static final int OWNERS = 8;
    private static final int TREES = 12;
    private static final int FENCES = 12;
    private static final int EDDIES = 8;
    private static final int GUSTS = 30;
    private static final int QUARTERS = 48;
    private static final int CELLS = 100;
    private static final int ROW = 10;
    private static final int DIRS = 8;
    private static final int STRONGEST = 9;
    private static final int PLAN_LINES = 30;
    private static final int ONES = 20;
    private static final int WITHIN = 8;
    private static final int FORECASTS = 24;
    private static final int ODDS_QUARTERS = 12;
    private static final int ODDS_SEEDS = 100;
    private static final int IMAGES = 2;
    private static final int UNDOES = 8;
    private static final int PLOT_SETS = 256;

    private static final int NO_GAIN = NONE - 1000;
    private static final int NO_DIFFERENCE = NONE - 10000;

    // Each word's number is its place in this row.
    private static final String WORDS = "yard owner vane tree fence eddy gust pact plot run set fell oil point blow or and not faces gold purse stick dir place ";
    private static final int YARD = 0;
    private static final int OWNER = 1;
    private static final int VANE = 2;
    private static final int TREE = 3;
    private static final int FENCE = 4;
    private static final int EDDY = 5;
    private static final int GUST = 6;
    private static final int PACT = 7;
    private static final int PLOT = 8;
    private static final int RUN = 9;
    private static final int SET = 10;
    private static final int FELL = 11;
    private static final int OIL = 12;
    private static final int POINT = 13;
    private static final int BLOW = 14;
    private static final int OR = 15;
    private static final int AND = 16;
    private static final int NOT = 17;
    private static final int FACES = 18;
    private static final int GOLD = 19;
    private static final int PURSE = 20;
    private static final int STICK = 21;
    private static final int DIR = 22;
    private static final int PLACE = 23;

    private static final int BAD_TOKEN = 1;
    private static final int BAD_NUMBER = 2;
    private static final int TOLD_WRONG = 3;
    private static final int TOO_MANY = 4;

    private static final int WRONG_THING = 1;
    private static final int WRONG_FENCES = 2;
    private static final int WRONG_TREE = 3;
    private static final int WRONG_QUARTER = 4;

    // What stands on a cell: its kind times 16, and the number of the owner or tree.
    private static final int NOTHING = 0;
    private static final int KIND_BITS = 4;
    private static final int NUMBER_MASK = 15;
    private static final int VANE_THING = 1 << KIND_BITS;
    private static final int TREE_THING = 2 << KIND_BITS;
    private static final int FENCE_THING = 3 << KIND_BITS;

    private static final int REACH = 3;
    private static final int TREE_TAKES = 2;
    private static final int FENCE_TAKES = 3;
    private static final int[] STEP_X = {0, 1, 1, 1, 0, -1, -1, -1};
    private static final int[] STEP_Y = {-1, -1, 0, 1, 1, 1, 0, -1};

    private final byte[] tape = new byte[TAPE_BYTES];
    private int tapeBytes = 0;
    private final Text text = new Text();
    private int faultKind = 0;

    private final Whole here = new Whole();
    private final Whole[] images = new Whole[IMAGES];
    private Bank spareBank = new Bank();
    private Plan sparePlan = new Plan();
    private Sentence spareSentence = new Sentence();

    private final Past past = new Past();
    private final Wind wind = new Wind();
    private final Plots game = new Plots();
    // What might be is tried here, so that what is stays.
    private final State trial = new State();

    private int moreBy = NONE;
    private final int[] pairs = new int[OWNERS * QUARTERS];
    private int pairCount = 0;
    private final int[] forecast = new int[QUARTERS];
    private final int[] judgement = {NONE, NONE, NONE, NONE, NONE};

    public GaleBank() {
        for (int k = 0; k < IMAGES; k++) {
            images[k] = new Whole();
        }
    }

    // ---- the tape ----

    public int feed(int a, int b, int c, int d, int e) {
        if (tapeBytes > TAPE_BYTES - FEED_BYTES) {
            return NONE;
        }
        putFour(a);
        putFour(b);
        putFour(c);
        putFour(d);
        putFour(e);
        return tapeBytes;
    }

    private void putFour(int number) {
        for (int shift = 24; shift >= 0; shift -= 8) {
            if (tapeBytes < TAPE_BYTES) {
                tape[tapeBytes] = (byte) (number >>> shift);
                tapeBytes++;
            }
        }
    }

    public boolean end(int n) {
        if (n < 0 || n > tapeBytes) {
            return false;
        }
        tapeBytes = n;
        return true;
    }

    // ---- the three texts ----

    private void splitTape(int mostBytes) {
        text.split(tape, tapeBytes, mostBytes);
        tapeBytes = 0;
    }

    public int bank() {
        splitTape(BANK_BYTES);
        spareBank.read(text);
        faultKind = text.fault;
        if (faultKind != 0) {
            return -1 - text.faultAt;
        }
        Bank old = here.bank;
        here.bank = spareBank;
        spareBank = old;
        here.state.begin(here.bank);
        here.plan.lines = 0;
        here.sentence.ones = 0;
        past.forget();
        game.known = false;
        return here.bank.lines;
    }

    public int plan() {
        splitTape(PLAN_BYTES);
        sparePlan.read(text, here.bank);
        faultKind = text.fault;
        if (faultKind != 0) {
            return -1 - text.faultAt;
        }
        Plan old = here.plan;
        here.plan = sparePlan;
        sparePlan = old;
        return here.plan.lines;
    }

    public int sentence() {
        splitTape(SENTENCE_BYTES);
        spareSentence.read(text);
        faultKind = text.fault;
        if (faultKind != 0) {
            return -1 - text.faultAt;
        }
        Sentence old = here.sentence;
        here.sentence = spareSentence;
        spareSentence = old;
        return here.sentence.ones;
    }

    public int fault() {
        return faultKind;
    }

    // ---- what is so ----

    public int cell(int at, int what) throws NoSuchElementException {
        if (!here.bank.isCell(at) || what < 0 || what > 2) {
            throw new NoSuchElementException();
        }
        int thing = here.state.thing[at];
        switch (what) {
            case 0:
                return thing >> KIND_BITS;
            case 1:
                return thing == NOTHING || thing == FENCE_THING ? NONE : thing & NUMBER_MASK;
            default:
                return here.bank.eddy[at];
        }
    }

    public int owner(int o, int what) throws NoSuchElementException {
        if (!here.bank.isOwner(o) || what < 0 || what > 10) {
            throw new NoSuchElementException();
        }
        Owners told = here.bank.owners;
        State state = here.state;
        switch (what) {
            case 0:
                return told.home[o];
            case 1:
                return state.gold[o];
            case 2:
                return state.purse[o];
            case 3:
                return told.share[o];
            case 4:
                return state.stick[o];
            case 5:
                return state.points[o];
            case 6:
                return state.stuck[o];
            case 7:
                return told.pact[o];
            case 8:
                return told.plot[o];
            case 9:
                return state.lost[o];
            default:
                return state.had[o];
        }
    }

    public int gust(int quarter, int what) {
        if (quarter < 0 || quarter >= QUARTERS || here.bank.gustForce[quarter] == 0) {
            return NONE;
        }
        switch (what) {
            case 0:
                return here.bank.gustDir[quarter];
            case 1:
                return here.bank.gustForce[quarter];
            default:
                return NONE;
        }
    }

    public int now(int what) {
        State state = here.state;
        switch (what) {
            case 0:
                return state.quarter;
            case 1:
                return state.trust;
            case 2:
                return sum(state.gold);
            case 3:
                return sum(state.purse);
            case 4:
                return state.fences;
            case 5:
                return Integer.bitCount(state.stands);
            case 6:
                return state.latestDir;
            case 7:
                return state.inRuns;
            default:
                return NONE;
        }
    }

    // Rows of owners hold 0 behind the last owner, so the whole row can be added.
    private static int sum(int[] row) {
        int all = 0;
        for (int i = 0; i < row.length; i++) {
            all += row[i];
        }
        return all;
    }

    public int count(int what) {
        Bank told = here.bank;
        switch (what) {
            case 0:
                return told.width;
            case 1:
                return told.height;
            case 2:
                return told.owners.count;
            case 3:
                return told.trees;
            case 4:
                return told.gusts;
            case 5:
                return told.each;
            case 6:
                return told.cash;
            case 7:
                return here.plan.lines;
            case 8:
                return tapeBytes;
            default:
                return NONE;
        }
    }

    // ---- one gust, if it came now ----

    private static boolean isGust(int dir, int force) {
        return dir >= 0 && dir < DIRS && force >= 1 && force <= STRONGEST;
    }

    public int comes(int at, int dir, int force, int what) {
        if (!here.bank.isCell(at) || !isGust(dir, force)) {
            return NONE;
        }
        switch (what) {
            case 0:
                return here.bank.dirAt(at, dir);
            case 1:
                return here.bank.forceAt(here.state.thing, at, dir, force);
            default:
                return NONE;
        }
    }

    public int faces(int dir, int force) {
        if (!isGust(dir, force)) {
            return NONE;
        }
        trial.copy(here.state);
        return wind.turnVanes(here.bank, trial, dir, force);
    }

    public int gains(int o, int dir, int force) {
        if (!here.bank.isOwner(o) || !isGust(dir, force)) {
            return NO_GAIN;
        }
        return gainNow(o, dir, force);
    }

    private int gainNow(int o, int dir, int force) {
        trial.copy(here.state);
        wind.gale(here.bank, trial, dir, force);
        return trial.gold[o] - here.state.gold[o];
    }

    public int best(int o, int force) {
        if (!here.bank.isOwner(o) || !isGust(0, force)) {
            return NONE;
        }
        int bestDir = 0;
        int bestGain = gainNow(o, 0, force);
        for (int dir = 1; dir < DIRS; dir++) {
            int gain = gainNow(o, dir, force);
            if (gain > bestGain) {
                bestDir = dir;
                bestGain = gain;
            }
        }
        return bestDir;
    }

    // ---- acts ----

    private void keepPast() {
        past.push(here.state);
        game.known = false;
    }

    public int blow(int n) {
        if (n < 1 || n > QUARTERS) {
            return NONE;
        }
        if (here.state.quarter >= QUARTERS) {
            return 0;
        }
        keepPast();
        return wind.pass(here.bank, here.state, n);
    }

    public int set(int at) {
        if (!here.bank.isCell(at)) {
            return NONE;
        }
        int why = here.state.whyNoFence(at);
        if (why == 0) {
            keepPast();
            here.state.putFence(at);
        }
        return why;
    }

    public int fell(int tree) {
        int why = here.state.whyNoFelling(tree);
        if (why == 0) {
            keepPast();
            here.state.takeTree(here.bank, tree);
        }
        return why;
    }

    public boolean oil(int o) {
        if (!here.bank.isOwner(o)) {
            return false;
        }
        keepPast();
        here.state.oilVane(o);
        return true;
    }

    public boolean point(int o, int dir) {
        if (!here.bank.isOwner(o) || dir < 0 || dir >= DIRS) {
            return false;
        }
        keepPast();
        here.state.stickVane(o, dir);
        return true;
    }

    public int undo() {
        if (past.kept == 0) {
            return NONE;
        }
        past.pop(here.state);
        game.known = false;
        return past.kept;
    }

    // ---- what would be behind the last quarter ----

    public int richest() {
        trial.copy(here.state);
        wind.pass(here.bank, trial, QUARTERS);
        int first = NONE;
        for (int o = 0; o < here.bank.owners.count; o++) {
            if (first == NONE || trial.wealth(o) > trial.wealth(first)) {
                first = o;
            }
        }
        return first;
    }

    private int wealthAtEnd(int o) {
        trial.copy(here.state);
        wind.pass(here.bank, trial, QUARTERS);
        return trial.wealth(o);
    }

    public int fence(int o) {
        if (!here.bank.isOwner(o) || here.state.fences >= FENCES) {
            return NONE;
        }
        int without = wealthAtEnd(o);
        int most = without;
        int bestAt = NONE;
        for (int at = 0; at < CELLS; at++) {
            if (here.bank.isCell(at) && here.state.thing[at] == NOTHING) {
                trial.copy(here.state);
                trial.putFence(at);
                wind.pass(here.bank, trial, QUARTERS);
                if (trial.wealth(o) > most) {
                    most = trial.wealth(o);
                    bestAt = at;
                }
            }
        }
        if (bestAt != NONE) {
            moreBy = most - without;
        }
        return bestAt;
    }

    public int more() {
        return moreBy;
    }

    public int suit(int o, int tree) {
        if (!here.bank.isOwner(o) || here.state.whyNoFelling(tree) != 0) {
            return NO_DIFFERENCE;
        }
        int with = wealthAtEnd(o);
        trial.copy(here.state);
        trial.takeTree(here.bank, tree);
        wind.pass(here.bank, trial, QUARTERS);
        return trial.wealth(o) - with;
    }

    // ---- plots ----

    public int has(int o, int plots) {
        if (!here.bank.isOwner(o) || (plots & ~freePlots()) != 0) {
            return NONE;
        }
        tryPlots(plots);
        return trial.wealth(o);
    }

    private int freePlots() {
        int free = 0;
        for (int o = 0; o < here.bank.owners.count; o++) {
            int at = here.bank.owners.plot[o];
            if (at >= 0 && at < CELLS && here.state.thing[at] == NOTHING) {
                free |= 1 << o;
            }
        }
        return free;
    }

    private void tryPlots(int set) {
        trial.copy(here.state);
        for (int o = 0; o < here.bank.owners.count; o++) {
            int at = here.bank.owners.plot[o];
            if ((set >> o & 1) == 1) {
                trial.putFence(at);
            }
        }
        wind.pass(here.bank, trial, QUARTERS);
    }

    public int rests(int k) {
        if (!game.known) {
            tryAllPlots();
        }
        if (k == NONE) {
            return game.restCount;
        }
        return k >= 0 && k < game.restCount ? game.rest[k] : NONE;
    }

    private void tryAllPlots() {
        int free = freePlots();
        for (int set = 0; set < PLOT_SETS; set++) {
            if ((set & ~free) == 0) {
                tryPlots(set);
                game.note(set, trial);
            }
        }
        game.findRests(free);
    }

    // ---- who oiled ----

    public int oiled() {
        int bytes = tapeBytes;
        tapeBytes = 0;
        int owners = here.bank.owners.count;
        if (owners == 0 || bytes != owners) {
            return NONE;
        }
        for (int o = 0; o < owners; o++) {
            if (tape[o] < 0 || tape[o] >= DIRS) {
                return NONE;
            }
        }
        pairCount = 0;
        int unlike = unlikeWithoutOil(owners);
        for (int o = 0; o < owners; o++) {
            if ((unlike & ~(1 << o)) == 0) {
                findPairs(o);
            }
        }
        return pairCount;
    }

    private int unlikeWithoutOil(int owners) {
        int unlike = 0;
        for (int o = 0; o < owners; o++) {
            if (wind.pointsBehind(here.bank, o, NONE, here.state.quarter) != tape[o]) {
                unlike |= 1 << o;
            }
        }
        return unlike;
    }

    private void findPairs(int o) {
        int gone = here.state.quarter;
        for (int quarter = 0; quarter < gone; quarter++) {
            boolean like = wind.pointsBehind(here.bank, o, quarter, gone) == tape[o];
            if (like && pairCount < pairs.length) {
                pairs[pairCount] = 100 * o + quarter;
                pairCount++;
            }
        }
    }

    public int oiledAt(int k) {
        return k >= 0 && k < pairCount ? pairs[k] : NONE;
    }

    // ---- forecasts and draws ----

    public int worth(int o) {
        int bytes = tapeBytes;
        tapeBytes = 0;
        if (!here.bank.isOwner(o) || !readForecast(bytes)) {
            return NO_DIFFERENCE;
        }
        int without = wealthAtEnd(o);
        trial.copy(here.state);
        for (int quarter = here.state.quarter; quarter < QUARTERS; quarter++) {
            if (forecast[quarter] != NONE) {
                trial.points[o] = forecast[quarter];
            }
            wind.pass(here.bank, trial, 1);
        }
        return trial.wealth(o) - without;
    }

    private boolean readForecast(int bytes) {
        if (bytes < 2 || bytes > 2 * FORECASTS || bytes % 2 != 0) {
            return false;
        }
        for (int quarter = 0; quarter < QUARTERS; quarter++) {
            forecast[quarter] = NONE;
        }
        int before = NONE;
        for (int i = 0; i + 1 < bytes; i += 2) {
            int quarter = tape[i];
            int dir = tape[i + 1];
            if (quarter <= before || quarter >= QUARTERS || dir < 0 || dir >= DIRS) {
                return false;
            }
            forecast[quarter] = dir;
            before = quarter;
        }
        return true;
    }

    public int drawn(int o, int n, int seed) {
        if (!here.bank.isOwner(o) || n < 1 || n > QUARTERS) {
            return NONE;
        }
        return wealthDrawn(o, n, seed);
    }

    private int wealthDrawn(int o, int n, int seed) {
        trial.copy(here.state);
        wind.passDrawn(here.bank, trial, n, seed);
        return trial.wealth(o);
    }

    public int odds(int o, int n, int seed) {
        if (!here.bank.isOwner(o) || n < 1 || n > ODDS_SEEDS) {
            return NONE;
        }
        int less = 0;
        for (int i = 0; i < n; i++) {
            if (wealthDrawn(o, ODDS_QUARTERS, seed + i) < here.state.wealth(o)) {
                less++;
            }
        }
        return less;
    }

    // ---- plans and sentences at work ----

    public int judge(int lives) {
        if (lives != 0 && lives != 1) {
            return -2;
        }
        trial.copy(here.state);
        int why = 0;
        int done = 0;
        while (why == 0 && done < here.plan.lines) {
            why = here.plan.perform(done, here.bank, trial, wind);
            if (why == 0) {
                done++;
            }
        }
        judgement[0] = why;
        judgement[1] = done;
        judgement[2] = trial.quarter;
        judgement[3] = trial.trust;
        judgement[4] = trial.fences;
        if (lives == 1 && done > 0) {
            keepPast();
            here.state.copy(trial);
        }
        return why == 0 ? NONE : done;
    }

    public int judged(int what) {
        return what >= 0 && what < judgement.length ? judgement[what] : NONE;
    }

    public int said(int k) {
        if (here.sentence.ones == 0) {
            return NONE;
        }
        int owners = here.sentence.ownersOf(here.state, here.bank.owners.count);
        if (k == NONE) {
            return Integer.bitCount(owners);
        }
        int before = 0;
        for (int o = 0; o < OWNERS; o++) {
            if ((owners >> o & 1) == 1) {
                if (before == k) {
                    return o;
                }
                before++;
            }
        }
        return NONE;
    }

    // ---- images ----

    public boolean image(int k) {
        if (k < 0 || k >= IMAGES) {
            return false;
        }
        images[k].copy(here);
        images[k].kept = true;
        return true;
    }

    public boolean restore(int k) {
        if (k < 0 || k >= IMAGES || !images[k].kept) {
            return false;
        }
        here.copy(images[k]);
        past.forget();
        game.known = false;
        return true;
    }

    /** A tape split into tokens, and the first fault found along it. */
    private static final class Text {
        static final int END = 0;
        static final int BAD = 1;
        static final int WORD = 2;
        static final int NAME = 3;
        static final int NUMBER = 4;
        static final int MARK = 5;
        static final int WORD_LETTERS = 6;
        static final int NUMBER_DIGITS = 3;

        final int[] kind = new int[TAPE_BYTES + 1];
        final int[] value = new int[TAPE_BYTES + 1];
        final int[] place = new int[TAPE_BYTES + 1];
        int tokens = 0;
        int next = 0;
        int fault = 0;
        int faultAt = 0;

        void split(byte[] bytes, int length, int mostBytes) {
            tokens = 0;
            next = 0;
            fault = 0;
            faultAt = 0;
            int most = Math.min(length, mostBytes);
            int at = 0;
            for (int i = 0; i < TAPE_BYTES && at < most; i++) {
                int sign = bytes[at];
                if (sign == ' ' || sign == '\n') {
                    at++;
                } else if (isLetter(sign) || isDigit(sign)) {
                    at = splitRun(bytes, at, length);
                } else {
                    add(isMark(sign) ? MARK : BAD, sign, at);
                    at++;
                }
            }
            // What begins behind the most bytes is never read: the excess itself is the fault there.
            add(length > mostBytes ? BAD : END, 0, most);
        }

        private int splitRun(byte[] bytes, int from, int length) {
            int to = from;
            int letters = 0;
            int code = 0;
            int number = 0;
            while (to < length && (isLetter(bytes[to]) || isDigit(bytes[to]))) {
                if (isLetter(bytes[to])) {
                    letters++;
                    code = code * 32 + (bytes[to] - 96);
                } else {
                    number = number * 10 + (bytes[to] - '0');
                }
                to++;
            }
            int size = to - from;
            if (letters == size && size <= WORD_LETTERS) {
                int word = wordOf(code);
                add(word == NONE ? NAME : WORD, word == NONE ? code : word, from);
            } else if (letters == 0 && size <= NUMBER_DIGITS) {
                add(NUMBER, number, from);
            } else {
                add(BAD, 0, from);
            }
            return to;
        }

        private static int wordOf(int code) {
            int word = 0;
            int wordCode = 0;
            for (int i = 0; i < WORDS.length(); i++) {
                char sign = WORDS.charAt(i);
                if (sign != ' ') {
                    wordCode = wordCode * 32 + (sign - 96);
                } else if (wordCode == code) {
                    return word;
                } else {
                    word++;
                    wordCode = 0;
                }
            }
            return NONE;
        }

        private static boolean isLetter(int sign) {
            return sign >= 'a' && sign <= 'z';
        }

        private static boolean isDigit(int sign) {
            return sign >= '0' && sign <= '9';
        }

        private static boolean isMark(int sign) {
            return sign == ';' || sign == '<' || sign == '=' || sign == '>' || sign == '(' || sign == ')';
        }

        private void add(int tokenKind, int tokenValue, int at) {
            if (tokens < kind.length) {
                kind[tokens] = tokenKind;
                value[tokens] = tokenValue;
                place[tokens] = at;
                tokens++;
            }
        }

        boolean isSound() {
            return fault == 0;
        }

        boolean goesOn() {
            return fault == 0 && !sees(END, 0);
        }

        boolean sees(int tokenKind, int tokenValue) {
            return next < tokens && kind[next] == tokenKind && value[next] == tokenValue;
        }

        /** The number of the word that is next, NONE if none is; it is not taken. */
        int nextWord() {
            return next < tokens && kind[next] == WORD ? value[next] : NONE;
        }

        /** A fault at the token that is next. */
        void blameNext(int why) {
            if (fault == 0 && next < tokens) {
                fault = why;
                faultAt = place[next];
            }
        }

        /** A fault at the token that was taken last. */
        void blameTaken(int why) {
            if (fault == 0 && next > 0 && next <= tokens) {
                fault = why;
                faultAt = place[next - 1];
            }
        }

        void take() {
            if (next < tokens) {
                next++;
            }
        }

        private int takeKind(int wanted) {
            if (fault != 0 || next >= tokens) {
                return NONE;
            }
            if (kind[next] != wanted) {
                fault = BAD_TOKEN;
                faultAt = place[next];
                return NONE;
            }
            int taken = value[next];
            next++;
            return taken;
        }

        int takeWord(int first, int last) {
            int word = nextWord();
            if (word < first || word > last) {
                blameNext(BAD_TOKEN);
                return NONE;
            }
            return takeKind(WORD);
        }

        int takeName() {
            return takeKind(NAME);
        }

        /** Answers NONE at a fault. */
        int takeNumber(int least, int most) {
            int number = takeKind(NUMBER);
            if (fault == 0 && (number < least || number > most)) {
                blameTaken(BAD_NUMBER);
            }
            return fault == 0 ? number : NONE;
        }

        void takeMark(char mark) {
            if (sees(MARK, mark)) {
                take();
            } else {
                blameNext(BAD_TOKEN);
            }
        }
    }

    /** The owners as a bank's text tells them. */
    private static final class Owners {
        int count = 0;
        int vanesTold = 0;
        final int[] name = new int[OWNERS];
        final int[] home = new int[OWNERS];
        final int[] gold = new int[OWNERS];
        final int[] share = new int[OWNERS];
        final int[] stick = new int[OWNERS];
        final int[] points = new int[OWNERS];
        final int[] pact = new int[OWNERS];
        final int[] plot = new int[OWNERS];
        // Owners as a run takes them: the greatest share first.
        final int[] order = new int[OWNERS];

        void clear() {
            count = 0;
            vanesTold = 0;
            for (int o = 0; o < OWNERS; o++) {
                gold[o] = 0;
                stick[o] = 0;
                points[o] = 0;
                pact[o] = NONE;
                plot[o] = NONE;
            }
        }

        void copy(Owners from) {
            count = from.count;
            vanesTold = from.vanesTold;
            System.arraycopy(from.name, 0, name, 0, OWNERS);
            System.arraycopy(from.home, 0, home, 0, OWNERS);
            System.arraycopy(from.gold, 0, gold, 0, OWNERS);
            System.arraycopy(from.share, 0, share, 0, OWNERS);
            System.arraycopy(from.stick, 0, stick, 0, OWNERS);
            System.arraycopy(from.points, 0, points, 0, OWNERS);
            System.arraycopy(from.pact, 0, pact, 0, OWNERS);
            System.arraycopy(from.plot, 0, plot, 0, OWNERS);
            System.arraycopy(from.order, 0, order, 0, OWNERS);
        }

        int find(int wanted) {
            for (int o = 0; o < count; o++) {
                if (name[o] == wanted) {
                    return o;
                }
            }
            return NONE;
        }

        /** The owner whose name is next; NONE at a fault. */
        int take(Text text) {
            int o = find(text.takeName());
            if (o == NONE) {
                text.blameTaken(TOLD_WRONG);
            }
            return text.isSound() ? o : NONE;
        }

        boolean hasPlotOn(int at) {
            for (int o = 0; o < count; o++) {
                if (plot[o] == at) {
                    return true;
                }
            }
            return false;
        }

        void sortByShare() {
            for (int o = 0; o < count; o++) {
                int ahead = 0;
                for (int other = 0; other < count; other++) {
                    if (share[other] > share[o] || share[other] == share[o] && other < o) {
                        ahead++;
                    }
                }
                if (ahead < OWNERS) {
                    order[ahead] = o;
                }
            }
        }
    }

    /** A bank as its text tells it. */
    private static final class Bank {
        int lines = 0;
        int width = 0;
        int height = 0;
        int trees = 0;
        int fences = 0;
        int eddies = 0;
        int gusts = 0;
        boolean runTold = false;
        int each = 0;
        int cash = 0;
        final Owners owners = new Owners();
        final int[] thing = new int[CELLS];
        final int[] eddy = new int[CELLS];
        final int[] treeAt = new int[TREES];
        final int[] gustDir = new int[QUARTERS];
        // 0: there is no gust in that quarter.
        final int[] gustForce = new int[QUARTERS];

        private void clear() {
            lines = 0;
            width = 0;
            height = 0;
            trees = 0;
            fences = 0;
            eddies = 0;
            gusts = 0;
            runTold = false;
            each = 0;
            cash = 0;
            owners.clear();
            for (int at = 0; at < CELLS; at++) {
                thing[at] = NOTHING;
                eddy[at] = 0;
            }
            for (int quarter = 0; quarter < QUARTERS; quarter++) {
                gustForce[quarter] = 0;
            }
        }

        void copy(Bank from) {
            lines = from.lines;
            width = from.width;
            height = from.height;
            trees = from.trees;
            fences = from.fences;
            eddies = from.eddies;
            gusts = from.gusts;
            runTold = from.runTold;
            each = from.each;
            cash = from.cash;
            owners.copy(from.owners);
            System.arraycopy(from.thing, 0, thing, 0, CELLS);
            System.arraycopy(from.eddy, 0, eddy, 0, CELLS);
            System.arraycopy(from.treeAt, 0, treeAt, 0, TREES);
            System.arraycopy(from.gustDir, 0, gustDir, 0, QUARTERS);
            System.arraycopy(from.gustForce, 0, gustForce, 0, QUARTERS);
        }

        boolean isCell(int at) {
            return at >= 0 && at < CELLS && at % ROW < width && at / ROW < height;
        }

        boolean isOwner(int o) {
            return o >= 0 && o < owners.count;
        }

        int dirAt(int at, int dir) {
            int turn = at >= 0 && at < CELLS ? eddy[at] : 0;
            return dir + turn & DIRS - 1;
        }

        int forceAt(int[] things, int at, int dir, int force) {
            int left = force;
            int stepX = STEP_X[dir & DIRS - 1];
            int stepY = STEP_Y[dir & DIRS - 1];
            int x = at % ROW;
            int y = at / ROW;
            for (int i = 0; i < REACH; i++) {
                x += stepX;
                y += stepY;
                if (x < 0 || x >= width || y < 0 || y >= height) {
                    break;
                }
                int there = things[y * ROW + x] >> KIND_BITS << KIND_BITS;
                if (there == TREE_THING) {
                    left -= TREE_TAKES;
                } else if (there == FENCE_THING) {
                    left -= FENCE_TAKES;
                }
            }
            return Math.max(left, 0);
        }

        void read(Text text) {
            clear();
            for (int i = 0; i < BANK_BYTES && text.goesOn(); i++) {
                readLine(text);
                text.takeMark(';');
                lines++;
            }
            owners.sortByShare();
        }

        private void readLine(Text text) {
            switch (text.takeWord(YARD, RUN)) {
                case YARD:
                    readYard(text);
                    break;
                case OWNER:
                    readOwner(text);
                    break;
                case VANE:
                    readVane(text);
                    break;
                case TREE:
                    readTree(text);
                    break;
                case FENCE:
                    readFence(text);
                    break;
                case EDDY:
                    readEddy(text);
                    break;
                case GUST:
                    readGust(text);
                    break;
                case PACT:
                    readPact(text);
                    break;
                case PLOT:
                    readPlot(text);
                    break;
                case RUN:
                    readRun(text);
                    break;
                default:
                    break;
            }
        }

        /** The cell whose X and Y are next; NONE at a fault. */
        int takeCell(Text text) {
            int x = text.takeNumber(0, width - 1);
            int y = text.takeNumber(0, height - 1);
            return text.isSound() ? y * ROW + x : NONE;
        }

        private static void refuseIfTaken(Text text, int[] cells, int at) {
            if (at >= 0 && at < cells.length && cells[at] != 0) {
                text.blameTaken(TOLD_WRONG);
            }
        }

        private void readYard(Text text) {
            if (width != 0) {
                text.blameTaken(TOLD_WRONG);
            }
            int w = text.takeNumber(2, 10);
            int h = text.takeNumber(2, 10);
            if (text.isSound()) {
                width = w;
                height = h;
            }
        }

        private void readOwner(Text text) {
            if (owners.count >= OWNERS) {
                text.blameTaken(TOO_MANY);
            }
            int name = text.takeName();
            if (owners.find(name) != NONE) {
                text.blameTaken(TOLD_WRONG);
            }
            int at = takeCell(text);
            refuseIfTaken(text, thing, at);
            int gold = text.takeNumber(0, 999);
            int share = text.takeNumber(1, 99);
            int stick = text.takeNumber(0, 9);
            int o = owners.count;
            if (text.isSound() && o < OWNERS && at >= 0 && at < CELLS) {
                owners.name[o] = name;
                owners.home[o] = at;
                owners.gold[o] = gold;
                owners.share[o] = share;
                owners.stick[o] = stick;
                thing[at] = VANE_THING + o;
                owners.count++;
            }
        }

        private void readVane(Text text) {
            int o = owners.take(text);
            if (text.isSound() && (owners.vanesTold >> o & 1) == 1) {
                text.blameTaken(TOLD_WRONG);
            }
            int dir = text.takeNumber(0, DIRS - 1);
            if (text.isSound() && isOwner(o)) {
                owners.vanesTold |= 1 << o;
                owners.points[o] = dir;
            }
        }

        private void readTree(Text text) {
            if (trees >= TREES) {
                text.blameTaken(TOO_MANY);
            }
            int at = takeCell(text);
            refuseIfTaken(text, thing, at);
            if (text.isSound() && trees < TREES && at >= 0 && at < CELLS) {
                thing[at] = TREE_THING + trees;
                treeAt[trees] = at;
                trees++;
            }
        }

        private void readFence(Text text) {
            if (fences >= FENCES) {
                text.blameTaken(TOO_MANY);
            }
            int at = takeCell(text);
            refuseIfTaken(text, thing, at);
            if (text.isSound() && at >= 0 && at < CELLS) {
                thing[at] = FENCE_THING;
                fences++;
            }
        }

        private void readEddy(Text text) {
            if (eddies >= EDDIES) {
                text.blameTaken(TOO_MANY);
            }
            int at = takeCell(text);
            refuseIfTaken(text, eddy, at);
            int turn = text.takeNumber(1, DIRS - 1);
            if (text.isSound() && at >= 0 && at < CELLS) {
                eddy[at] = turn;
                eddies++;
            }
        }

        private void readGust(Text text) {
            if (gusts >= GUSTS) {
                text.blameTaken(TOO_MANY);
            }
            int quarter = text.takeNumber(0, QUARTERS - 1);
            if (quarter >= 0 && quarter < QUARTERS && gustForce[quarter] != 0) {
                text.blameTaken(TOLD_WRONG);
            }
            int dir = text.takeNumber(0, DIRS - 1);
            int force = text.takeNumber(1, STRONGEST);
            if (text.isSound() && quarter >= 0 && quarter < QUARTERS) {
                gustDir[quarter] = dir;
                gustForce[quarter] = force;
                gusts++;
            }
        }

        private void readPact(Text text) {
            int o = owners.take(text);
            if (isOwner(o) && owners.pact[o] != NONE) {
                text.blameTaken(TOLD_WRONG);
            }
            int other = owners.take(text);
            if (o == other) {
                text.blameTaken(TOLD_WRONG);
            }
            if (text.isSound() && isOwner(o)) {
                owners.pact[o] = other;
            }
        }

        private void readPlot(Text text) {
            int o = owners.take(text);
            if (isOwner(o) && owners.plot[o] != NONE) {
                text.blameTaken(TOLD_WRONG);
            }
            int at = takeCell(text);
            if (text.isSound() && owners.hasPlotOn(at)) {
                text.blameTaken(TOLD_WRONG);
            }
            if (text.isSound() && isOwner(o)) {
                owners.plot[o] = at;
            }
        }

        private void readRun(Text text) {
            if (runTold) {
                text.blameTaken(TOLD_WRONG);
            }
            int takes = text.takeNumber(0, 99);
            int most = text.takeNumber(0, 999);
            if (text.isSound()) {
                runTold = true;
                each = takes;
                cash = most;
            }
        }
    }

    /** All that is so and goes by wind and acts. */
    private static final class State {
        int quarter = 0;
        int trust = 0;
        int fences = 0;
        // A bit for each tree that is not felled.
        int stands = 0;
        int latestDir = NONE;
        int inRuns = 0;
        final int[] gold = new int[OWNERS];
        final int[] purse = new int[OWNERS];
        final int[] stick = new int[OWNERS];
        final int[] points = new int[OWNERS];
        final int[] stuck = new int[OWNERS];
        final int[] lost = new int[OWNERS];
        final int[] had = new int[OWNERS];
        final int[] thing = new int[CELLS];

        void begin(Bank bank) {
            quarter = 0;
            trust = 0;
            fences = bank.fences;
            stands = (1 << bank.trees) - 1;
            latestDir = NONE;
            inRuns = 0;
            for (int o = 0; o < OWNERS; o++) {
                gold[o] = bank.owners.gold[o];
                purse[o] = 0;
                stick[o] = bank.owners.stick[o];
                points[o] = bank.owners.points[o];
                stuck[o] = 0;
                lost[o] = 0;
                had[o] = 0;
            }
            System.arraycopy(bank.thing, 0, thing, 0, CELLS);
        }

        void copy(State from) {
            quarter = from.quarter;
            trust = from.trust;
            fences = from.fences;
            stands = from.stands;
            latestDir = from.latestDir;
            inRuns = from.inRuns;
            System.arraycopy(from.gold, 0, gold, 0, OWNERS);
            System.arraycopy(from.purse, 0, purse, 0, OWNERS);
            System.arraycopy(from.stick, 0, stick, 0, OWNERS);
            System.arraycopy(from.points, 0, points, 0, OWNERS);
            System.arraycopy(from.stuck, 0, stuck, 0, OWNERS);
            System.arraycopy(from.lost, 0, lost, 0, OWNERS);
            System.arraycopy(from.had, 0, had, 0, OWNERS);
            System.arraycopy(from.thing, 0, thing, 0, CELLS);
        }

        int wealth(int o) {
            return gold[o] + purse[o];
        }

        int whyNoFence(int at) {
            if (at < 0 || at >= CELLS || thing[at] != NOTHING) {
                return WRONG_THING;
            }
            return fences >= FENCES ? WRONG_FENCES : 0;
        }

        void putFence(int at) {
            if (at >= 0 && at < CELLS) {
                thing[at] = FENCE_THING;
                fences++;
            }
        }

        int whyNoFelling(int tree) {
            return tree < 0 || tree >= TREES || (stands >> tree & 1) == 0 ? WRONG_TREE : 0;
        }

        void takeTree(Bank bank, int tree) {
            int at = tree >= 0 && tree < TREES ? bank.treeAt[tree] : NONE;
            if (at >= 0 && at < CELLS) {
                thing[at] = NOTHING;
                stands &= ~(1 << tree);
            }
        }

        void oilVane(int o) {
            if (o >= 0 && o < OWNERS) {
                stuck[o] = 0;
                stick[o] = 0;
            }
        }

        void stickVane(int o, int dir) {
            if (o >= 0 && o < OWNERS) {
                points[o] = dir;
                stuck[o] = 1;
            }
        }
    }

    /** Lets quarters go by over a state; its rows are used again by each gust. */
    private static final class Wind {
        private final int[] part = new int[OWNERS];
        private final int[] rest = new int[OWNERS];
        private final int[] gain = new int[OWNERS];
        private int seed = 0;

        private static int turned(int points, int to, int most) {
            int way = to - points & DIRS - 1;
            if (most <= 0) {
                return points;
            }
            if (way <= DIRS / 2) {
                return points + Math.min(way, most) & DIRS - 1;
            }
            return points - Math.min(DIRS - way, most) & DIRS - 1;
        }

        /** Turns all vanes; answers the owners that face the gust then, as bits. */
        int turnVanes(Bank bank, State state, int dir, int force) {
            int facing = 0;
            for (int o = 0; o < bank.owners.count; o++) {
                int at = bank.owners.home[o];
                int to = bank.dirAt(at, dir);
                int left = bank.forceAt(state.thing, at, dir, force);
                if (state.stuck[o] == 0) {
                    state.points[o] = turned(state.points[o], to, left - state.stick[o]);
                }
                if (left > 0 && state.points[o] == to) {
                    facing |= 1 << o;
                }
            }
            return facing;
        }

        void gale(Bank bank, State state, int dir, int force) {
            int facing = turnVanes(bank, state, dir, force);
            state.latestDir = dir;
            int pool = 0;
            for (int o = 0; o < bank.owners.count; o++) {
                if ((facing >> o & 1) == 0) {
                    int loss = Math.min(force, state.gold[o]);
                    state.gold[o] -= loss;
                    state.lost[o] += loss;
                    pool += loss;
                }
            }
            if (facing == 0) {
                state.trust += pool;
            } else {
                share(bank.owners, facing, pool);
                payPacts(bank.owners);
                for (int o = 0; o < bank.owners.count; o++) {
                    state.gold[o] += gain[o];
                    state.had[o] += gain[o];
                }
            }
        }

        private void share(Owners owners, int facing, int pool) {
            int shares = 0;
            for (int o = 0; o < owners.count; o++) {
                shares += (facing >> o & 1) * owners.share[o];
            }
            int over = pool;
            for (int o = 0; o < owners.count; o++) {
                part[o] = 0;
                rest[o] = NONE;
                if ((facing >> o & 1) == 1 && shares > 0) {
                    part[o] = pool * owners.share[o] / shares;
                    rest[o] = pool * owners.share[o] % shares;
                    over -= part[o];
                }
            }
            for (int i = 0; i < over; i++) {
                giveToGreatestRest(owners.count);
            }
        }

        private void giveToGreatestRest(int owners) {
            int greatest = 0;
            for (int o = 1; o < owners; o++) {
                if (rest[o] > rest[greatest]) {
                    greatest = o;
                }
            }
            part[greatest]++;
            rest[greatest] = NONE;
        }

        // A third is of one's own part alone, so no pact's third is shared on by another pact.
        private void payPacts(Owners owners) {
            for (int o = 0; o < owners.count; o++) {
                gain[o] = part[o];
            }
            for (int o = 0; o < owners.count; o++) {
                int other = owners.pact[o];
                if (other >= 0 && other < owners.count) {
                    gain[o] -= part[o] / 3;
                    gain[other] += part[o] / 3;
                }
            }
        }

        private void calm(Bank bank, State state) {
            int left = bank.cash;
            for (int i = 0; i < bank.owners.count && left > 0; i++) {
                int o = bank.owners.order[i];
                int taken = Math.min(left, Math.min(bank.each, state.gold[o]));
                state.gold[o] -= taken;
                state.purse[o] += taken;
                state.inRuns += taken;
                left -= taken;
            }
        }

        /** Lets so many quarters go by, none behind the last; answers how many did. */
        int pass(Bank bank, State state, int quarters) {
            int gone = 0;
            while (gone < quarters && state.quarter < QUARTERS) {
                int force = bank.gustForce[state.quarter];
                if (force > 0) {
                    gale(bank, state, bank.gustDir[state.quarter], force);
                } else {
                    calm(bank, state);
                }
                state.quarter++;
                gone++;
            }
            return gone;
        }

        // Drawn quarters are no quarters of the bank: the last one does not end them.
        void passDrawn(Bank bank, State state, int quarters, int firstSeed) {
            seed = firstSeed;
            for (int i = 0; i < quarters; i++) {
                int force = draw(STRONGEST + 1);
                if (force > 0) {
                    gale(bank, state, draw(DIRS), force);
                } else {
                    calm(bank, state);
                }
            }
        }

        private int draw(int n) {
            seed = seed * 1103515245 + 12345;
            return n > 0 ? (seed >>> 8) % n : 0;
        }

        /** Where a vane points behind some quarters of the bank as told, oiled ahead of one of them. */
        int pointsBehind(Bank bank, int o, int oiledAhead, int gone) {
            int points = bank.owners.points[o];
            int stick = bank.owners.stick[o];
            int at = bank.owners.home[o];
            for (int quarter = 0; quarter < gone && quarter < QUARTERS; quarter++) {
                if (quarter == oiledAhead) {
                    stick = 0;
                }
                int force = bank.gustForce[quarter];
                if (force > 0) {
                    int dir = bank.gustDir[quarter];
                    int left = bank.forceAt(bank.thing, at, dir, force);
                    points = turned(points, bank.dirAt(at, dir), left - stick);
                }
            }
            return points;
        }
    }

    /** A plan's lines: an act's word, and up to two numbers. */
    private static final class Plan {
        int lines = 0;
        final int[] act = new int[PLAN_LINES];
        final int[] first = new int[PLAN_LINES];
        final int[] second = new int[PLAN_LINES];

        void copy(Plan from) {
            lines = from.lines;
            System.arraycopy(from.act, 0, act, 0, PLAN_LINES);
            System.arraycopy(from.first, 0, first, 0, PLAN_LINES);
            System.arraycopy(from.second, 0, second, 0, PLAN_LINES);
        }

        void read(Text text, Bank bank) {
            lines = 0;
            for (int i = 0; i <= PLAN_LINES && text.goesOn(); i++) {
                int word = text.takeWord(SET, BLOW);
                if (lines >= PLAN_LINES) {
                    text.blameTaken(TOO_MANY);
                }
                readLine(text, bank, word);
                text.takeMark(';');
                if (text.isSound()) {
                    lines++;
                }
            }
        }

        private void readLine(Text text, Bank bank, int word) {
            if (!text.isSound() || lines >= PLAN_LINES) {
                return;
            }
            act[lines] = word;
            second[lines] = 0;
            switch (word) {
                case SET:
                    first[lines] = bank.takeCell(text);
                    break;
                case FELL:
                    // Whether there is such a tree is asked when it is felled.
                    first[lines] = text.takeNumber(0, 999);
                    break;
                case OIL:
                    first[lines] = bank.owners.take(text);
                    break;
                case POINT:
                    first[lines] = bank.owners.take(text);
                    second[lines] = text.takeNumber(0, DIRS - 1);
                    break;
                default:
                    first[lines] = text.takeNumber(1, QUARTERS);
                    break;
            }
        }

        /** Does a line; answers why it is wrong (then nothing is done), or 0. */
        int perform(int line, Bank bank, State state, Wind wind) {
            int number = first[line];
            int why = 0;
            switch (act[line]) {
                case SET:
                    why = state.whyNoFence(number);
                    if (why == 0) {
                        state.putFence(number);
                    }
                    break;
                case FELL:
                    why = state.whyNoFelling(number);
                    if (why == 0) {
                        state.takeTree(bank, number);
                    }
                    break;
                case OIL:
                    state.oilVane(number);
                    break;
                case POINT:
                    state.stickVane(number, second[line]);
                    break;
                default:
                    why = wind.pass(bank, state, number) == 0 ? WRONG_QUARTER : 0;
                    break;
            }
            return why;
        }
    }

    /** A sentence, its parts ahead of what joins them, so that it is weighed without recursion. */
    private static final class Sentence {
        // Of twenty ones at most each leaves one step, and each but the first one joint.
        private static final int STEPS = 2 * ONES;

        // 0: there is no sentence.
        int ones = 0;
        private int steps = 0;
        private final int[] step = new int[STEPS];
        private final int[] sign = new int[STEPS];
        private final int[] number = new int[STEPS];
        private final int[] stack = new int[ONES];

        void copy(Sentence from) {
            ones = from.ones;
            steps = from.steps;
            System.arraycopy(from.step, 0, step, 0, STEPS);
            System.arraycopy(from.sign, 0, sign, 0, STEPS);
            System.arraycopy(from.number, 0, number, 0, STEPS);
        }

        void read(Text text) {
            ones = 0;
            steps = 0;
            readCond(text, 1);
            if (text.goesOn()) {
                text.blameNext(BAD_TOKEN);
            }
        }

        private void readCond(Text text, int depth) {
            readAll(text, depth);
            for (int i = 0; i < ONES && text.isSound() && text.nextWord() == OR; i++) {
                text.take();
                readAll(text, depth);
                add(OR, 0, 0);
            }
        }

        private void readAll(Text text, int depth) {
            readOne(text, depth);
            for (int i = 0; i < ONES && text.isSound() && text.nextWord() == AND; i++) {
                text.take();
                readOne(text, depth);
                add(AND, 0, 0);
            }
        }

        private void readOne(Text text, int depth) {
            boolean opens = text.sees(Text.MARK, '(');
            int word = text.nextWord();
            if (!opens && (word < NOT || word > PLACE)) {
                text.blameNext(BAD_TOKEN);
            } else if (ones >= ONES || depth > WITHIN) {
                text.blameNext(TOO_MANY);
            }
            if (!text.isSound() || depth > WITHIN) {
                return;
            }
            ones++;
            text.take();
            if (opens) {
                readCond(text, depth + 1);
                text.takeMark(')');
            } else if (word == NOT) {
                readOne(text, depth + 1);
                add(NOT, 0, 0);
            } else if (word == FACES) {
                add(FACES, 0, 0);
            } else {
                int compares = takeSign(text);
                add(word, compares, text.takeNumber(0, 999));
            }
        }

        private static int takeSign(Text text) {
            for (int mark = '<'; mark <= '>'; mark++) {
                if (text.sees(Text.MARK, mark)) {
                    text.take();
                    return mark;
                }
            }
            text.blameNext(BAD_TOKEN);
            return NONE;
        }

        private void add(int what, int compares, int with) {
            if (steps < STEPS) {
                step[steps] = what;
                sign[steps] = compares;
                number[steps] = with;
                steps++;
            }
        }

        /** The owners of whom the sentence may be said, as bits. */
        int ownersOf(State state, int owners) {
            int top = 0;
            for (int i = 0; i < steps; i++) {
                if (step[i] == NOT && top > 0) {
                    stack[top - 1] = ~stack[top - 1];
                } else if (step[i] == AND && top > 1) {
                    top--;
                    stack[top - 1] &= stack[top];
                } else if (step[i] == OR && top > 1) {
                    top--;
                    stack[top - 1] |= stack[top];
                } else if (top < stack.length) {
                    stack[top] = ownersOfOne(state, owners, i);
                    top++;
                }
            }
            return top > 0 ? stack[0] & (1 << owners) - 1 : 0;
        }

        private int ownersOfOne(State state, int owners, int i) {
            int bits = 0;
            for (int o = 0; o < owners; o++) {
                if (isSo(state, o, i)) {
                    bits |= 1 << o;
                }
            }
            return bits;
        }

        private boolean isSo(State state, int o, int i) {
            switch (step[i]) {
                case FACES:
                    return state.points[o] == state.latestDir;
                case GOLD:
                    return compare(state.gold[o], i);
                case PURSE:
                    return compare(state.purse[o], i);
                case STICK:
                    return compare(state.stick[o], i);
                case DIR:
                    return compare(state.points[o], i);
                default:
                    return compare(o, i);
            }
        }

        private boolean compare(int is, int i) {
            switch (sign[i]) {
                case '<':
                    return is < number[i];
                case '=':
                    return is == number[i];
                default:
                    return is > number[i];
            }
        }
    }

    /** What an image keeps: the bank, all that is so, the plan and the sentence. */
    private static final class Whole {
        boolean kept = false;
        Bank bank = new Bank();
        final State state = new State();
        Plan plan = new Plan();
        Sentence sentence = new Sentence();

        void copy(Whole from) {
            bank.copy(from.bank);
            state.copy(from.state);
            plan.copy(from.plan);
            sentence.copy(from.sentence);
        }
    }

    /** The states ahead of the latest acts, the oldest given up for a newer one. */
    private static final class Past {
        private final State[] states = new State[UNDOES];
        private int top = 0;
        int kept = 0;

        Past() {
            for (int i = 0; i < UNDOES; i++) {
                states[i] = new State();
            }
        }

        void forget() {
            kept = 0;
        }

        void push(State state) {
            states[top].copy(state);
            top = (top + 1) % UNDOES;
            kept = Math.min(kept + 1, UNDOES);
        }

        void pop(State state) {
            if (kept > 0) {
                top = (top + UNDOES - 1) % UNDOES;
                kept--;
                state.copy(states[top]);
            }
        }
    }

    /** What each set of plots would bring; known until something changes. */
    private static final class Plots {
        boolean known = false;
        int restCount = 0;
        final int[] rest = new int[PLOT_SETS];
        private final int[] wealth = new int[PLOT_SETS * OWNERS];

        void note(int set, State state) {
            for (int o = 0; o < OWNERS; o++) {
                wealth[set * OWNERS + o] = state.wealth(o);
            }
        }

        void findRests(int free) {
            restCount = 0;
            for (int set = 0; set < PLOT_SETS; set++) {
                if ((set & ~free) == 0 && isRest(set, free)) {
                    rest[restCount] = set;
                    restCount++;
                }
            }
            known = true;
        }

        private boolean isRest(int set, int free) {
            for (int o = 0; o < OWNERS; o++) {
                int changed = set ^ 1 << o;
                if ((free >> o & 1) == 1 && wealth[changed * OWNERS + o] > wealth[set * OWNERS + o]) {
                    return false;
                }
            }
            return true;
        }
    }
}
