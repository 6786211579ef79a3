import java.util.ArrayList;
import java.util.Collections;
import java.util.List;
import java.util.NoSuchElementException;
import java.util.Random;

/**
 * Long runs of drawn calls, each answer compared with the model's. They go on behind an object's 512th call, where the document
 * leaves the answers free: this class goes on as before, and long runs find more.
 */
public final class ModelTest {
    private static final int NONE = GaleBank.NONE;
    private static final int RUNS = 250;
    private static final int CALLS = 120;
    private static final String[] NAMES = {"a", "b", "cc", "d", "eeeeee", "f", "g", "h", "i"};
    private static final String SIGNS = "abyz0189;<=>(). \nA\u00e9-";

    private final Calls calls = new Calls();
    private final Random random;
    private GaleBank x = new GaleBank();
    private Model m = new Model();
    private int w = 4;
    private int h = 4;
    private int owners = 0;

    private ModelTest(long seed) {
        random = new Random(seed);
    }

    public static void main(String[] args) {
        ModelTest test = new ModelTest(20261118);
        for (int run = 0; run < RUNS; run++) {
            test.run(run);
        }
        test.calls.finish();
    }

    private void run(int number) {
        calls.promise("run " + number);
        x = new GaleBank();
        m = new Model();
        for (int i = 0; i < CALLS; i++) {
            if (i == 0 || random.nextInt(50) == 0) {
                tellBank();
            }
            call();
        }
    }

    private int upTo(int most) {
        return random.nextInt(most + 1);
    }

    /** Mostly from 0 to most, now and then one beyond. */
    private int about(int most) {
        return random.nextInt(12) == 0 ? random.nextInt(2) == 0 ? -1 - random.nextInt(3) : most + 1 + random.nextInt(4) : upTo(Math.max(most, 0));
    }

    private void tell(String text) {
        byte[] bytes = Calls.bytes(text.length() > 940 ? text.substring(0, 940) : text);
        for (int i = 0; i < bytes.length; i += 20) {
            int[] f = new int[5];
            for (int j = 0; j < 20; j++) {
                f[j / 4] = f[j / 4] << 8 | (i + j < bytes.length ? bytes[i + j] & 255 : 0);
            }
            calls.due("feed", x.feed(f[0], f[1], f[2], f[3], f[4]), m.feed(f));
        }
        calls.due("end", x.end(bytes.length), m.end(bytes.length));
    }

    private void clearTape() {
        x.end(0);
        m.end(0);
    }

    private String maybeBroken(String text, int oneIn) {
        if (random.nextInt(oneIn) != 0 || text.isEmpty()) {
            return text;
        }
        StringBuilder b = new StringBuilder(text);
        int changes = 1 + random.nextInt(2);
        for (int i = 0; i < changes && b.length() > 0; i++) {
            int at = random.nextInt(b.length());
            char sign = SIGNS.charAt(random.nextInt(SIGNS.length()));
            switch (random.nextInt(4)) {
                case 0 -> b.deleteCharAt(at);
                case 1 -> b.insert(at, sign);
                case 2 -> b.setCharAt(at, sign);
                default -> b.setLength(at);
            }
        }
        return b.toString();
    }

    private String blanks() {
        return random.nextInt(8) == 0 ? "\n  " : " ";
    }

    private String bankText() {
        w = 2 + random.nextInt(9);
        h = 2 + random.nextInt(9);
        owners = 1 + random.nextInt(8);
        StringBuilder b = new StringBuilder("yard " + w + " " + h + ";");
        List<Integer> free = new ArrayList<>();
        for (int i = 0; i < w * h; i++) {
            free.add(10 * (i / w) + i % w);
        }
        Collections.shuffle(free, random);
        owners = Math.min(owners, free.size());
        List<String> lines = new ArrayList<>();
        for (int o = 0; o < owners; o++) {
            int gold = random.nextInt(3) == 0 ? random.nextInt(20) : random.nextInt(1000);
            b.append("owner ").append(NAMES[o]).append(xy(free)).append(blanks()).append(gold).append(' ')
                    .append(1 + random.nextInt(random.nextBoolean() ? 3 : 99)).append(' ').append(random.nextInt(random.nextBoolean() ? 4 : 10)).append(';');
            if (random.nextBoolean()) {
                lines.add("vane " + NAMES[o] + " " + random.nextInt(8) + ";");
            }
            if (random.nextBoolean()) {
                int at = random.nextInt(w * h);
                lines.add("plot " + NAMES[o] + " " + at % w + " " + at / w + ";");
            }
            int other = random.nextInt(owners);
            if (random.nextBoolean() && other != o) {
                lines.add("pact " + NAMES[o] + " " + NAMES[other] + ";");
            }
        }
        for (int i = random.nextInt(6); i > 0 && free.size() > 1; i--) {
            lines.add("tree" + xy(free) + ";");
        }
        for (int i = random.nextInt(random.nextInt(5) == 0 ? 13 : 4); i > 0 && free.size() > 1; i--) {
            lines.add("fence" + xy(free) + ";");
        }
        for (int i = random.nextInt(4); i > 0; i--) {
            lines.add("eddy " + random.nextInt(w) + " " + random.nextInt(h) + " " + (1 + random.nextInt(7)) + ";");
        }
        for (int q = 0; q < 48; q++) {
            if (random.nextInt(3) == 0) {
                lines.add("gust " + q + " " + random.nextInt(8) + " " + (1 + random.nextInt(9)) + ";");
            }
        }
        if (random.nextBoolean()) {
            lines.add("run " + random.nextInt(20) + " " + random.nextInt(60) + ";");
        }
        Collections.shuffle(lines, random);
        for (String line : lines) {
            if (b.length() + line.length() < 900 || random.nextInt(200) == 0) {
                b.append(line);
            }
        }
        return b.toString();
    }

    private String xy(List<Integer> free) {
        int at = free.size() > 1 ? free.remove(free.size() - 1) : free.get(0);
        return " " + at % 10 + " " + at / 10;
    }

    /** Until a bank is taken: broken ones and ones with doubled plots or eddies are refused on the way. */
    private void tellBank() {
        for (int i = 0; i < 20; i++) {
            clearTape();
            tell(maybeBroken(bankText(), 3));
            int lines = m.bank();
            calls.due("bank", x.bank(), lines);
            calls.due("fault", x.fault(), m.fault);
            calls.due("count", x.count(8), 0);
            if (lines >= 0) {
                return;
            }
        }
    }

    private String planText() {
        StringBuilder b = new StringBuilder();
        for (int i = random.nextInt(random.nextInt(6) == 0 ? 34 : 8); i > 0; i--) {
            String name = NAMES[random.nextInt(Math.max(owners, 1) + (random.nextInt(20) == 0 ? 1 : 0))];
            switch (random.nextInt(5)) {
                case 0 -> b.append("set ").append(random.nextInt(w)).append(' ').append(random.nextInt(h));
                case 1 -> b.append("fell ").append(random.nextInt(random.nextInt(8) == 0 ? 1000 : 4));
                case 2 -> b.append("oil ").append(name);
                case 3 -> b.append("point ").append(name).append(' ').append(random.nextInt(8));
                default -> b.append("blow ").append(1 + random.nextInt(random.nextInt(3) == 0 ? 48 : 4));
            }
            b.append(';');
        }
        return b.toString();
    }

    private String one(int depth) {
        int kind = random.nextInt(depth > 8 ? 2 : depth > 3 ? 5 : 8);
        if (kind == 0) {
            return "faces";
        }
        if (kind == 5 || kind == 6) {
            return "(" + cond(depth + 1) + ")";
        }
        if (kind >= 4) {
            return "not " + one(depth + 1);
        }
        String field = new String[] {"gold", "purse", "stick", "dir", "place"}[random.nextInt(5)];
        int most = field.equals("gold") ? 999 : field.equals("purse") ? 50 : 8;
        return field + blanks() + "<=>".charAt(random.nextInt(3)) + random.nextInt(most);
    }

    private String cond(int depth) {
        StringBuilder b = new StringBuilder(one(depth));
        for (int i = random.nextInt(3); i > 0; i--) {
            b.append(random.nextBoolean() ? " and " : "\nor ").append(one(depth));
        }
        return b.toString();
    }

    private void call() {
        int o = about(owners - 1);
        int at = about(10 * h - 1);
        int dir = about(7);
        int force = random.nextInt(20) == 0 ? about(9) : 1 + random.nextInt(9);
        switch (random.nextInt(26)) {
            case 0 -> plan();
            case 1 -> sentence();
            case 2 -> lookAtCell(at, about(2));
            case 3 -> lookAtOwner(o, about(10));
            case 4 -> calls.due("gust", x.gust(at, dir & 1), m.gust(at, dir & 1));
            case 5 -> comes(at, dir, force);
            case 6 -> calls.due("faces " + dir + " " + force, x.faces(dir, force), m.faces(dir, force));
            case 7 -> calls.due("gains " + o, x.gains(o, dir, force), m.gains(o, dir, force));
            case 8 -> blow();
            case 9 -> calls.due("set " + at, x.set(at), m.set(at));
            case 10 -> {
                int tree = about(5);
                calls.due("fell", x.fell(tree), m.fell(tree));
            }
            case 11 -> calls.due("oil", x.oil(o), m.oil(o));
            case 12 -> calls.due("point", x.point(o, dir), m.point(o, dir));
            case 13 -> calls.due("undo", x.undo(), m.undo());
            case 14 -> fence(o);
            case 15 -> {
                int plots = random.nextInt(4) == 0 ? random.nextInt() : random.nextInt(1 << Math.max(owners, 1)) & random.nextInt();
                calls.due("has " + o + " " + plots, x.has(o, plots), m.has(o, plots));
            }
            case 16 -> rests();
            case 17 -> oiled();
            case 18 -> {
                int tree = about(5);
                calls.due("suit", x.suit(o, tree), m.suit(o, tree));
            }
            case 19 -> worth(o);
            case 20 -> draws(o);
            case 21 -> calls.due("richest", x.richest(), m.richest());
            case 22 -> calls.due("best", x.best(o, force), m.best(o, force));
            case 23 -> judge();
            case 24 -> said();
            default -> images();
        }
        lookAtAll();
    }

    private void comes(int at, int dir, int force) {
        for (int what = -1; what < 3; what++) {
            calls.due("comes", x.comes(at, dir, force, what), m.comes(at, dir, force, what));
        }
    }

    private void lookAtAll() {
        for (int what = -1; what < 9; what++) {
            calls.due("now " + what, x.now(what), m.now(what));
        }
        for (int what = -1; what < 10; what++) {
            calls.due("count " + what, x.count(what), m.count(what));
        }
        for (int o = 0; o < x.count(2); o++) {
            for (int what = 0; what < 11; what++) {
                calls.due("owner " + o + " " + what, x.owner(o, what), m.owner(o, what));
            }
        }
    }

    private void lookAtCell(int at, int what) {
        int want;
        try {
            want = m.cell(at, what);
        } catch (NoSuchElementException e) {
            calls.dueThrow("cell", () -> x.cell(at, what));
            return;
        }
        calls.due("cell", x.cell(at, what), want);
        for (int i = 0; i < 100; i++) {
            if (i % 10 < x.count(0) && i / 10 < x.count(1)) {
                for (int k = 0; k < 3; k++) {
                    calls.due("cell " + i + " " + k, x.cell(i, k), m.cell(i, k));
                }
            }
        }
    }

    private void lookAtOwner(int o, int what) {
        int want;
        try {
            want = m.owner(o, what);
        } catch (NoSuchElementException e) {
            calls.dueThrow("owner", () -> x.owner(o, what));
            return;
        }
        calls.due("owner", x.owner(o, what), want);
    }

    private void blow() {
        int n = random.nextInt(4) == 0 ? about(48) : about(6);
        calls.due("blow " + n, x.blow(n), m.blow(n));
    }

    private void plan() {
        clearTape();
        tell(maybeBroken(planText(), 4));
        calls.due("plan", x.plan(), m.plan());
        calls.due("fault", x.fault(), m.fault);
        judge();
    }

    private void judge() {
        int lives = about(1);
        calls.due("judge " + lives, x.judge(lives), m.judge(lives));
        for (int what = -1; what < 6; what++) {
            calls.due("judged " + what, x.judged(what), m.judged(what));
        }
    }

    private void sentence() {
        clearTape();
        tell(maybeBroken(cond(1), 4));
        calls.due("sentence", x.sentence(), m.sentence());
        calls.due("fault", x.fault(), m.fault);
        said();
    }

    private void said() {
        for (int k = -2; k < 9; k++) {
            calls.due("said " + k, x.said(k), m.said(k));
        }
    }

    private void fence(int o) {
        calls.due("fence " + o, x.fence(o), m.fence(o));
        calls.due("more", x.more(), m.more);
    }

    private void rests() {
        if (random.nextInt(4) == 0) {
            int all = m.rests(NONE);
            calls.due("rests", x.rests(NONE), all);
            for (int k = -2; k < 3; k++) {
                calls.due("rests " + k, x.rests(k), m.rests(k));
            }
        }
    }

    private void oiled() {
        clearTape();
        StringBuilder b = new StringBuilder();
        for (int o = 0; o < x.count(2); o++) {
            b.append((char) (random.nextInt(60) == 0 ? random.nextInt(256) : x.owner(o, 5)));
        }
        if (b.length() > 0 && random.nextInt(3) == 0) {
            b.setCharAt(random.nextInt(b.length()), (char) random.nextInt(8));
        }
        if (random.nextInt(10) == 0) {
            b.append((char) 0);
        }
        tell(b.toString());
        calls.due("oiled", x.oiled(), m.oiled());
        for (int k = -1; k < m.pairs.size() + 2; k++) {
            calls.due("oiledAt " + k, x.oiledAt(k), m.oiledAt(k));
        }
    }

    private void worth(int o) {
        clearTape();
        StringBuilder b = new StringBuilder();
        int q = random.nextInt(10) - 1;
        for (int i = random.nextInt(random.nextInt(5) == 0 ? 26 : 10); i >= 0; i--) {
            q += random.nextInt(30) == 0 ? 0 : 1 + random.nextInt(3);
            b.append((char) Math.max(0, q)).append((char) (random.nextInt(60) == 0 ? random.nextInt(256) : random.nextInt(8)));
        }
        if (random.nextInt(15) == 0) {
            b.append((char) 1);
        }
        tell(b.toString());
        calls.due("worth " + o, x.worth(o), m.worth(o));
    }

    private void draws(int o) {
        int seed = random.nextInt();
        int n = about(48);
        calls.due("drawn", x.drawn(o, n, seed), m.drawn(o, n, seed));
        int many = about(100);
        calls.due("odds", x.odds(o, many, seed), m.odds(o, many, seed));
    }

    private void images() {
        int k = about(1);
        if (random.nextBoolean()) {
            calls.due("image", x.image(k), m.image(k));
        } else {
            calls.due("restore", x.restore(k), m.restore(k));
            w = Math.max(1, x.count(0));
            h = Math.max(1, x.count(1));
            owners = x.count(2);
        }
    }
}
