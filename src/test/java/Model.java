import java.util.ArrayDeque;
import java.util.ArrayList;
import java.util.Arrays;
import java.util.Deque;
import java.util.HashMap;
import java.util.HashSet;
import java.util.LinkedHashMap;
import java.util.List;
import java.util.Map;
import java.util.NoSuchElementException;
import java.util.Set;
import java.util.TreeMap;
import java.util.function.Predicate;
import java.util.regex.Matcher;
import java.util.regex.Pattern;

/** The document read a second time, with the library and without care for speed, to be compared with GaleBank. */
final class Model {
    static final int NONE = -1;
    static final Set<String> WORDS = new HashSet<>(Arrays.asList(
            "yard owner vane tree fence eddy gust pact plot run set fell oil point blow or and not faces gold purse stick dir place"
                    .split(" ")));

    static final class Fault extends RuntimeException {
        private static final long serialVersionUID = 1L;
        final int kind;
        final int place;

        Fault(int kind, int place) {
            this.kind = kind;
            this.place = place;
        }
    }

    record Token(String text, int at) {
        boolean isNumber() {
            return text.matches("[0-9]{1,3}");
        }

        boolean isName() {
            return text.matches("[a-z]{1,6}") && !WORDS.contains(text);
        }
    }

    /** Tokens of a text; the end is a token of no sign, what is over the limit one of a sign that can't come. */
    static final class Tokens {
        final List<Token> all = new ArrayList<>();
        int next = 0;

        Tokens(String text, int limit) {
            Matcher m = Pattern.compile("[a-z0-9]+|[^ \n]", Pattern.DOTALL).matcher(text);
            while (m.find() && m.start() < limit) {
                all.add(new Token(m.group(), m.start()));
            }
            all.add(text.length() > limit ? new Token("?", limit) : new Token("", text.length()));
        }

        Token peek() {
            return all.get(next);
        }

        boolean takeIf(String text) {
            if (peek().text.equals(text)) {
                next++;
                return true;
            }
            return false;
        }

        void need(String text) {
            if (!takeIf(text)) {
                throw new Fault(1, peek().at);
            }
        }

        int number(int least, int most) {
            Token t = peek();
            if (!t.isNumber()) {
                throw new Fault(1, t.at);
            }
            int n = Integer.parseInt(t.text);
            if (n < least || n > most) {
                throw new Fault(2, t.at);
            }
            next++;
            return n;
        }

        Token name() {
            Token t = peek();
            if (!t.isName()) {
                throw new Fault(1, t.at);
            }
            next++;
            return t;
        }

        int taken() {
            return all.get(next - 1).at;
        }
    }

    static final class Vane implements Cloneable {
        int home;
        int gold;
        int purse;
        int share;
        int stick;
        int dir;
        int stuck;
        int pact = NONE;
        int plot = NONE;
        int lost;
        int had;

        Vane twin() {
            try {
                return (Vane) clone();
            } catch (CloneNotSupportedException e) {
                throw new IllegalStateException(e);
            }
        }
    }

    /** A bank with all that is so in it. */
    static final class World {
        int w;
        int h;
        int each;
        int cash;
        int lines;
        boolean run;
        final List<String> names = new ArrayList<>();
        final List<Vane> vanes = new ArrayList<>();
        final List<Integer> trees = new ArrayList<>();
        final Set<Integer> felled = new HashSet<>();
        final Set<Integer> fences = new HashSet<>();
        final Map<Integer, Integer> eddies = new HashMap<>();
        final Map<Integer, int[]> gusts = new TreeMap<>();
        int quarter;
        int trust;
        int latest = NONE;
        int runs;

        World twin() {
            World t = new World();
            t.w = w;
            t.h = h;
            t.each = each;
            t.cash = cash;
            t.lines = lines;
            t.run = run;
            t.names.addAll(names);
            vanes.forEach(v -> t.vanes.add(v.twin()));
            t.trees.addAll(trees);
            t.felled.addAll(felled);
            t.fences.addAll(fences);
            t.eddies.putAll(eddies);
            t.gusts.putAll(gusts);
            t.quarter = quarter;
            t.trust = trust;
            t.latest = latest;
            t.runs = runs;
            return t;
        }

        boolean isCell(int at) {
            return at >= 0 && at % 10 < w && at / 10 < h;
        }

        boolean isTree(int at) {
            int t = trees.lastIndexOf(at);
            // A tree's cell can bear a later thing only when the tree is felled.
            return t >= 0 && !felled.contains(t);
        }

        int vaneOn(int at) {
            for (int o = 0; o < vanes.size(); o++) {
                if (vanes.get(o).home == at) {
                    return o;
                }
            }
            return NONE;
        }

        int kind(int at) {
            return vaneOn(at) != NONE ? 1 : isTree(at) ? 2 : fences.contains(at) ? 3 : 0;
        }

        int force(int at, int dir, int force) {
            int dx = dir >= 1 && dir <= 3 ? 1 : dir >= 5 ? -1 : 0;
            int dy = dir == 7 || dir <= 1 ? -1 : dir >= 3 && dir <= 5 ? 1 : 0;
            int left = force;
            for (int i = 1; i <= 3; i++) {
                int x = at % 10 + i * dx;
                int y = at / 10 + i * dy;
                if (x >= 0 && x < w && y >= 0 && y < h) {
                    int kind = kind(10 * y + x);
                    left -= kind == 2 ? 2 : kind == 3 ? 3 : 0;
                }
            }
            return Math.max(0, left);
        }

        int dir(int at, int dir) {
            return (dir + eddies.getOrDefault(at, 0)) % 8;
        }

        /** One eighth at a time, so that the way is found otherwise than in the class. */
        void turn(Vane v, int dir, int force) {
            int to = dir(v.home, dir);
            int steps = force(v.home, dir, force) - v.stick;
            while (v.stuck == 0 && steps-- > 0 && v.dir != to) {
                int clockwise = Math.floorMod(to - v.dir, 8);
                v.dir = Math.floorMod(v.dir + (clockwise <= 4 ? 1 : -1), 8);
            }
        }

        int blown(int dir, int force) {
            int bits = 0;
            for (int o = 0; o < vanes.size(); o++) {
                Vane v = vanes.get(o);
                turn(v, dir, force);
                if (force(v.home, dir, force) > 0 && v.dir == dir(v.home, dir)) {
                    bits |= 1 << o;
                }
            }
            return bits;
        }

        void gale(int dir, int force) {
            int facing = blown(dir, force);
            latest = dir;
            int pool = 0;
            List<Integer> facers = new ArrayList<>();
            for (int o = 0; o < vanes.size(); o++) {
                Vane v = vanes.get(o);
                if ((facing & 1 << o) != 0) {
                    facers.add(o);
                } else {
                    int loss = Math.min(force, v.gold);
                    v.gold -= loss;
                    v.lost += loss;
                    pool += loss;
                }
            }
            if (facers.isEmpty()) {
                trust += pool;
                return;
            }
            int all = facers.stream().mapToInt(o -> vanes.get(o).share).sum();
            Map<Integer, Integer> parts = new LinkedHashMap<>();
            int over = pool;
            for (int o : facers) {
                parts.put(o, pool * vanes.get(o).share / all);
                over -= parts.get(o);
            }
            final int total = pool;
            List<Integer> byRest = new ArrayList<>(facers);
            byRest.sort((p, q) -> total * vanes.get(q).share % all - total * vanes.get(p).share % all);
            for (int o : byRest.subList(0, over)) {
                parts.merge(o, 1, Integer::sum);
            }
            parts.forEach((o, part) -> {
                int third = vanes.get(o).pact == NONE ? 0 : part / 3;
                vanes.get(o).gold += part - third;
                vanes.get(o).had += part - third;
                if (vanes.get(o).pact != NONE) {
                    vanes.get(vanes.get(o).pact).gold += third;
                    vanes.get(vanes.get(o).pact).had += third;
                }
            });
        }

        void calm() {
            List<Vane> order = new ArrayList<>(vanes);
            order.sort((p, q) -> q.share - p.share);
            int taken = 0;
            for (Vane v : order) {
                int take = Math.min(Math.min(each, v.gold), cash - taken);
                v.gold -= take;
                v.purse += take;
                taken += take;
                runs += take;
            }
        }

        boolean step() {
            if (quarter > 47) {
                return false;
            }
            int[] gust = gusts.get(quarter);
            if (gust == null) {
                calm();
            } else {
                gale(gust[0], gust[1]);
            }
            quarter++;
            return true;
        }

        World atEnd() {
            while (step()) {
                continue;
            }
            return this;
        }

        int has(int o) {
            return vanes.get(o).gold + vanes.get(o).purse;
        }

        boolean isOwner(int o) {
            return o >= 0 && o < vanes.size();
        }

        int act(String kind, int a, int b) {
            switch (kind) {
                case "set":
                    if (kind(a) != 0) {
                        return 1;
                    }
                    if (fences.size() >= 12) {
                        return 2;
                    }
                    fences.add(a);
                    return 0;
                case "fell":
                    if (a < 0 || a >= trees.size() || felled.contains(a)) {
                        return 3;
                    }
                    felled.add(a);
                    return 0;
                case "oil":
                    vanes.get(a).stuck = 0;
                    vanes.get(a).stick = 0;
                    return 0;
                case "point":
                    vanes.get(a).dir = b;
                    vanes.get(a).stuck = 1;
                    return 0;
                default:
                    if (quarter > 47) {
                        return 4;
                    }
                    for (int i = 0; i < a; i++) {
                        step();
                    }
                    return 0;
            }
        }

        int owner(Tokens t) {
            Token name = t.name();
            int o = names.indexOf(name.text);
            if (o < 0) {
                throw new Fault(3, name.at);
            }
            return o;
        }

        int cell(Tokens t) {
            int x = t.number(0, w - 1);
            return 10 * t.number(0, h - 1) + x;
        }
    }

    record Act(String kind, int a, int b) {
    }

    static World readBank(String text) {
        Tokens t = new Tokens(text, 900);
        World b = new World();
        Set<Integer> vaned = new HashSet<>();
        while (!t.peek().text.isEmpty()) {
            readLine(t, b, vaned);
            t.need(";");
            b.lines++;
        }
        return b;
    }

    private static void once(boolean isTold, Tokens t) {
        if (isTold) {
            throw new Fault(3, t.taken());
        }
    }

    private static void room(int there, int most, Tokens t) {
        if (there >= most) {
            throw new Fault(4, t.taken());
        }
    }

    private static int freeCell(Tokens t, World b) {
        int at = b.cell(t);
        once(b.kind(at) != 0, t);
        return at;
    }

    private static void readLine(Tokens t, World b, Set<Integer> vaned) {
        Token word = t.peek();
        t.next++;
        switch (word.text) {
            case "yard" -> {
                once(b.w > 0, t);
                int w = t.number(2, 10);
                b.h = t.number(2, 10);
                b.w = w;
            }
            case "owner" -> {
                room(b.vanes.size(), 8, t);
                Token name = t.name();
                once(b.names.contains(name.text), t);
                Vane v = new Vane();
                v.home = freeCell(t, b);
                v.gold = t.number(0, 999);
                v.share = t.number(1, 99);
                v.stick = t.number(0, 9);
                b.names.add(name.text);
                b.vanes.add(v);
            }
            case "vane" -> {
                int o = b.owner(t);
                once(!vaned.add(o), t);
                b.vanes.get(o).dir = t.number(0, 7);
            }
            case "tree" -> {
                room(b.trees.size(), 12, t);
                b.trees.add(freeCell(t, b));
            }
            case "fence" -> {
                room(b.fences.size(), 12, t);
                b.fences.add(freeCell(t, b));
            }
            case "eddy" -> {
                room(b.eddies.size(), 8, t);
                int at = b.cell(t);
                once(b.eddies.containsKey(at), t);
                b.eddies.put(at, t.number(1, 7));
            }
            case "gust" -> {
                room(b.gusts.size(), 30, t);
                int q = t.number(0, 47);
                once(b.gusts.containsKey(q), t);
                int dir = t.number(0, 7);
                b.gusts.put(q, new int[] {dir, t.number(1, 9)});
            }
            case "pact" -> {
                int o = b.owner(t);
                once(b.vanes.get(o).pact != NONE, t);
                int other = b.owner(t);
                once(o == other, t);
                b.vanes.get(o).pact = other;
            }
            case "plot" -> {
                int o = b.owner(t);
                once(b.vanes.get(o).plot != NONE, t);
                int at = b.cell(t);
                once(b.vanes.stream().anyMatch(v -> v.plot == at), t);
                b.vanes.get(o).plot = at;
            }
            case "run" -> {
                once(b.run, t);
                b.run = true;
                b.each = t.number(0, 99);
                b.cash = t.number(0, 999);
            }
            default -> throw new Fault(1, word.at);
        }
    }

    static List<Act> readPlan(String text, World b) {
        Tokens t = new Tokens(text, 400);
        List<Act> plan = new ArrayList<>();
        while (!t.peek().text.isEmpty()) {
            Token word = t.peek();
            if (!Arrays.asList("set", "fell", "oil", "point", "blow").contains(word.text)) {
                throw new Fault(1, word.at);
            }
            t.next++;
            room(plan.size(), 30, t);
            int a;
            int two = 0;
            switch (word.text) {
                case "set" -> a = b.cell(t);
                case "fell" -> a = t.number(0, 999);
                case "oil" -> a = b.owner(t);
                case "point" -> {
                    a = b.owner(t);
                    two = t.number(0, 7);
                }
                default -> a = t.number(1, 48);
            }
            t.need(";");
            plan.add(new Act(word.text, a, two));
        }
        return plan;
    }

    /** A sentence as a tree of predicates over an owner's number. */
    final class Saying {
        int ones = 0;
        final Predicate<Integer> all;

        Saying(String text) {
            Tokens t = new Tokens(text, 200);
            all = cond(t, 1);
            if (!t.peek().text.isEmpty()) {
                throw new Fault(1, t.peek().at);
            }
        }

        private Predicate<Integer> cond(Tokens t, int depth) {
            Predicate<Integer> p = alls(t, depth);
            while (t.takeIf("or")) {
                p = p.or(alls(t, depth));
            }
            return p;
        }

        private Predicate<Integer> alls(Tokens t, int depth) {
            Predicate<Integer> p = one(t, depth);
            while (t.takeIf("and")) {
                p = p.and(one(t, depth));
            }
            return p;
        }

        private Predicate<Integer> one(Tokens t, int depth) {
            Token first = t.peek();
            if (!Arrays.asList("not", "(", "faces", "gold", "purse", "stick", "dir", "place").contains(first.text)) {
                throw new Fault(1, first.at);
            }
            if (ones == 20 || depth == 9) {
                throw new Fault(4, first.at);
            }
            ones++;
            t.next++;
            switch (first.text) {
                case "not":
                    return one(t, depth + 1).negate();
                case "(":
                    Predicate<Integer> p = cond(t, depth + 1);
                    t.need(")");
                    return p;
                case "faces":
                    return o -> world.latest == world.vanes.get(o).dir;
                default:
                    String sign = t.peek().text;
                    if (!Arrays.asList("<", "=", ">").contains(sign)) {
                        throw new Fault(1, t.peek().at);
                    }
                    t.next++;
                    int n = t.number(0, 999);
                    return o -> sign.equals("<") ? field(first.text, o) < n : sign.equals("=")
                            ? field(first.text, o) == n : field(first.text, o) > n;
            }
        }

        private int field(String name, int o) {
            Vane v = world.vanes.get(o);
            return switch (name) {
                case "gold" -> v.gold;
                case "purse" -> v.purse;
                case "stick" -> v.stick;
                case "dir" -> v.dir;
                default -> o;
            };
        }
    }

    World world = new World();
    World told = new World();
    List<Act> plan = new ArrayList<>();
    Saying saying = null;
    final Deque<World> past = new ArrayDeque<>();
    String tape = "";
    int fault = 0;
    int more = NONE;
    List<Integer> pairs = new ArrayList<>();
    int[] judged = null;
    final World[] imageWorld = new World[2];
    final World[] imageTold = new World[2];
    final List<List<Act>> imagePlan = new ArrayList<>(Arrays.asList(null, null));
    final Saying[] imageSaying = new Saying[2];

    private String takeTape() {
        String t = tape;
        tape = "";
        return t;
    }

    int feed(int... fours) {
        if (tape.length() + 20 > 940) {
            return NONE;
        }
        StringBuilder b = new StringBuilder(tape);
        for (int f : fours) {
            b.append((char) (f >>> 24)).append((char) (f >> 16 & 255)).append((char) (f >> 8 & 255)).append((char) (f & 255));
        }
        tape = b.toString();
        return tape.length();
    }

    boolean end(int n) {
        if (n < 0 || n > tape.length()) {
            return false;
        }
        tape = tape.substring(0, n);
        return true;
    }

    int bank() {
        String text = takeTape();
        try {
            World b = readBank(text);
            world = b;
            told = b.twin();
            plan = new ArrayList<>();
            saying = null;
            past.clear();
            fault = 0;
            return b.lines;
        } catch (Fault f) {
            fault = f.kind;
            return -1 - f.place;
        }
    }

    int plan() {
        String text = takeTape();
        try {
            plan = readPlan(text, world);
            fault = 0;
            return plan.size();
        } catch (Fault f) {
            fault = f.kind;
            return -1 - f.place;
        }
    }

    int sentence() {
        String text = takeTape();
        try {
            saying = new Saying(text);
            fault = 0;
            return saying.ones;
        } catch (Fault f) {
            fault = f.kind;
            return -1 - f.place;
        }
    }

    int cell(int at, int what) {
        if (!world.isCell(at) || what < 0 || what > 2) {
            throw new NoSuchElementException();
        }
        int kind = world.kind(at);
        return what == 0 ? kind : what == 2 ? world.eddies.getOrDefault(at, 0)
                : kind == 1 ? world.vaneOn(at) : kind == 2 ? world.trees.indexOf(at) : NONE;
    }

    int owner(int o, int what) {
        if (!world.isOwner(o) || what < 0 || what > 10) {
            throw new NoSuchElementException();
        }
        Vane v = world.vanes.get(o);
        return new int[] {v.home, v.gold, v.purse, v.share, v.stick, v.dir, v.stuck, v.pact, v.plot, v.lost, v.had}[what];
    }

    int gust(int q, int what) {
        return world.gusts.containsKey(q) && what >= 0 && what < 2 ? world.gusts.get(q)[what] : NONE;
    }

    private static boolean wind(int dir, int force) {
        return dir >= 0 && dir < 8 && force > 0 && force < 10;
    }

    int comes(int at, int dir, int force, int what) {
        if (!world.isCell(at) || !wind(dir, force) || what < 0 || what > 1) {
            return NONE;
        }
        return what == 0 ? world.dir(at, dir) : world.force(at, dir, force);
    }

    int faces(int dir, int force) {
        return wind(dir, force) ? world.twin().blown(dir, force) : NONE;
    }

    int gains(int o, int dir, int force) {
        if (!world.isOwner(o) || !wind(dir, force)) {
            return -1001;
        }
        World t = world.twin();
        t.gale(dir, force);
        return t.has(o) - world.has(o);
    }

    int best(int o, int force) {
        int best = NONE;
        for (int dir = 0; dir < 8 && world.isOwner(o) && wind(dir, force); dir++) {
            if (best == NONE || gains(o, dir, force) > gains(o, best, force)) {
                best = dir;
            }
        }
        return best;
    }

    private void keep() {
        past.push(world.twin());
        while (past.size() > 8) {
            past.removeLast();
        }
    }

    private int act(String kind, int a, int b) {
        World before = world.twin();
        int why = world.act(kind, a, b);
        if (why == 0) {
            past.push(before);
            while (past.size() > 8) {
                past.removeLast();
            }
        }
        return why;
    }

    int blow(int n) {
        if (n < 1 || n > 48) {
            return NONE;
        }
        int before = world.quarter;
        act("blow", n, 0);
        return world.quarter - before;
    }

    int set(int at) {
        return world.isCell(at) ? act("set", at, 0) : NONE;
    }

    int fell(int tree) {
        return act("fell", tree, 0);
    }

    boolean oil(int o) {
        return world.isOwner(o) && act("oil", o, 0) == 0;
    }

    boolean point(int o, int dir) {
        return world.isOwner(o) && dir >= 0 && dir < 8 && act("point", o, dir) == 0;
    }

    int undo() {
        if (past.isEmpty()) {
            return NONE;
        }
        world = past.pop();
        return past.size();
    }

    int now(int what) {
        switch (what) {
            case 0:
                return world.quarter;
            case 1:
                return world.trust;
            case 2:
                return world.vanes.stream().mapToInt(v -> v.gold).sum();
            case 3:
                return world.vanes.stream().mapToInt(v -> v.purse).sum();
            case 4:
                return world.fences.size();
            case 5:
                return world.trees.size() - world.felled.size();
            case 6:
                return world.latest;
            case 7:
                return world.runs;
            default:
                return NONE;
        }
    }

    int fence(int o) {
        if (!world.isOwner(o) || world.fences.size() >= 12) {
            return NONE;
        }
        int without = world.twin().atEnd().has(o);
        int most = without;
        int where = NONE;
        for (int y = 0; y < world.h; y++) {
            for (int x = 0; x < world.w; x++) {
                World t = world.twin();
                if (t.act("set", 10 * y + x, 0) == 0 && t.atEnd().has(o) > most) {
                    most = t.has(o);
                    where = 10 * y + x;
                }
            }
        }
        if (where != NONE) {
            more = most - without;
        }
        return where;
    }

    private World withPlots(int set) {
        World t = world.twin();
        for (int o = 0; o < 32; o++) {
            if ((set & 1 << o) != 0) {
                if (!world.isOwner(o) || world.vanes.get(o).plot == NONE || world.kind(world.vanes.get(o).plot) != 0) {
                    return null;
                }
                t.fences.add(world.vanes.get(o).plot);
            }
        }
        return t.atEnd();
    }

    int has(int o, int plots) {
        World t = withPlots(plots);
        return t == null || !world.isOwner(o) ? NONE : t.has(o);
    }

    int rests(int k) {
        List<Integer> found = new ArrayList<>();
        for (int set = 0; set < 256; set++) {
            World with = withPlots(set);
            boolean rest = with != null;
            for (int o = 0; o < world.vanes.size() && rest; o++) {
                World changed = withPlots(set ^ 1 << o);
                rest = changed == null || changed.has(o) <= with.has(o);
            }
            if (rest) {
                found.add(set);
            }
        }
        return k == NONE ? found.size() : k >= 0 && k < found.size() ? found.get(k) : NONE;
    }

    int oiled() {
        String t = takeTape();
        if (t.isEmpty() || t.length() != world.vanes.size() || t.chars().anyMatch(c -> c > 7)) {
            return NONE;
        }
        pairs = new ArrayList<>();
        for (int o = 0; o < t.length(); o++) {
            for (int q = 0; q < world.quarter; q++) {
                World from = told.twin();
                while (from.quarter < world.quarter) {
                    if (from.quarter == q) {
                        from.act("oil", o, 0);
                    }
                    from.step();
                }
                boolean like = true;
                for (int i = 0; i < t.length(); i++) {
                    like &= from.vanes.get(i).dir == t.charAt(i);
                }
                if (like) {
                    pairs.add(100 * o + q);
                }
            }
        }
        return pairs.size();
    }

    int oiledAt(int k) {
        return k >= 0 && k < pairs.size() ? pairs.get(k) : NONE;
    }

    int suit(int o, int tree) {
        World t = world.twin();
        if (!world.isOwner(o) || t.act("fell", tree, 0) != 0) {
            return -10001;
        }
        return t.atEnd().has(o) - world.twin().atEnd().has(o);
    }

    int worth(int o) {
        String t = takeTape();
        TreeMap<Integer, Integer> forecast = new TreeMap<>();
        if (!world.isOwner(o) || t.length() % 2 != 0 || t.isEmpty() || t.length() > 48) {
            return -10001;
        }
        for (int i = 0; i < t.length(); i += 2) {
            boolean rises = forecast.isEmpty() || t.charAt(i) > forecast.lastKey();
            if (!rises || t.charAt(i) > 47 || t.charAt(i + 1) > 7) {
                return -10001;
            }
            forecast.put((int) t.charAt(i), (int) t.charAt(i + 1));
        }
        World with = world.twin();
        while (with.quarter < 48) {
            if (forecast.containsKey(with.quarter)) {
                with.vanes.get(o).dir = forecast.get(with.quarter);
            }
            with.step();
        }
        return with.has(o) - world.twin().atEnd().has(o);
    }

    private int afterDraws(int o, int n, int seed) {
        World t = world.twin();
        int x = seed;
        for (int i = 0; i < n; i++) {
            x = x * 1103515245 + 12345;
            int force = (x >>> 8) % 10;
            if (force == 0) {
                t.calm();
            } else {
                x = x * 1103515245 + 12345;
                t.gale((x >>> 8) % 8, force);
            }
        }
        return t.has(o);
    }

    int drawn(int o, int n, int seed) {
        return world.isOwner(o) && n > 0 && n < 49 ? afterDraws(o, n, seed) : NONE;
    }

    int odds(int o, int n, int seed) {
        if (!world.isOwner(o) || n < 1 || n > 100) {
            return NONE;
        }
        int less = 0;
        for (int i = 0; i < n; i++) {
            less += afterDraws(o, 12, seed + i) < world.has(o) ? 1 : 0;
        }
        return less;
    }

    int richest() {
        World t = world.twin().atEnd();
        int first = NONE;
        for (int o = t.vanes.size() - 1; o >= 0; o--) {
            if (first == NONE || t.has(o) >= t.has(first)) {
                first = o;
            }
        }
        return first;
    }

    int judge(int lives) {
        if (lives < 0 || lives > 1) {
            return -2;
        }
        World t = world.twin();
        int why = 0;
        int done = 0;
        for (Act a : plan) {
            why = t.act(a.kind, a.a, a.b);
            if (why != 0) {
                break;
            }
            done++;
        }
        judged = new int[] {why, done, t.quarter, t.trust, t.fences.size()};
        if (lives == 1 && done > 0) {
            keep();
            world = t;
        }
        return why == 0 ? NONE : done;
    }

    int judged(int what) {
        return judged != null && what >= 0 && what < 5 ? judged[what] : NONE;
    }

    int said(int k) {
        if (saying == null) {
            return NONE;
        }
        List<Integer> found = new ArrayList<>();
        for (int o = 0; o < world.vanes.size(); o++) {
            if (saying.all.test(o)) {
                found.add(o);
            }
        }
        return k == NONE ? found.size() : k >= 0 && k < found.size() ? found.get(k) : NONE;
    }

    boolean image(int k) {
        if (k < 0 || k > 1) {
            return false;
        }
        imageWorld[k] = world.twin();
        imageTold[k] = told.twin();
        imagePlan.set(k, plan);
        imageSaying[k] = saying;
        return true;
    }

    boolean restore(int k) {
        if (k < 0 || k > 1 || imageWorld[k] == null) {
            return false;
        }
        world = imageWorld[k].twin();
        told = imageTold[k].twin();
        plan = imagePlan.get(k);
        saying = imageSaying[k];
        past.clear();
        return true;
    }

    int count(int what) {
        switch (what) {
            case 0:
                return world.w;
            case 1:
                return world.h;
            case 2:
                return world.vanes.size();
            case 3:
                return world.trees.size();
            case 4:
                return world.gusts.size();
            case 5:
                return world.each;
            case 6:
                return world.cash;
            case 7:
                return plan.size();
            case 8:
                return tape.length();
            default:
                return NONE;
        }
    }
}
