import java.nio.charset.StandardCharsets;
import java.util.NoSuchElementException;

/** Feeds texts to a GaleBank and counts answers that are not as due. */
final class Calls {
    private int wrong = 0;
    private int asked = 0;
    private String promise = "";

    void promise(String name) {
        promise = name;
    }

    void due(String what, int got, int want) {
        asked++;
        if (got != want) {
            wrong++;
            System.out.println(promise + ": " + what + " answered " + got + ", due is " + want);
        }
    }

    void due(String what, boolean got, boolean want) {
        due(what, got ? 1 : 0, want ? 1 : 0);
    }

    void dueThrow(String what, Runnable call) {
        int thrown = 0;
        try {
            call.run();
        } catch (NoSuchElementException e) {
            thrown = 1;
        }
        due(what + " throws NoSuchElementException", thrown, 1);
    }

    /** Ends the program as a test has to end. */
    void finish() {
        System.out.println(asked + " answers, " + wrong + " not as due");
        if (wrong != 0 || asked == 0) {
            System.exit(1);
        }
    }

    static void tape(GaleBank x, byte[] bytes) {
        int before = x.count(8);
        for (int i = 0; i < bytes.length; i += 20) {
            int[] fours = new int[5];
            for (int j = 0; j < 20; j++) {
                int b = i + j < bytes.length ? bytes[i + j] & 255 : 0;
                fours[j / 4] = fours[j / 4] << 8 | b;
            }
            x.feed(fours[0], fours[1], fours[2], fours[3], fours[4]);
        }
        x.end(before + bytes.length);
    }

    static byte[] bytes(String text) {
        return text.getBytes(StandardCharsets.ISO_8859_1);
    }

    static byte[] bytes(int... numbers) {
        byte[] row = new byte[numbers.length];
        for (int i = 0; i < row.length; i++) {
            row[i] = (byte) numbers[i];
        }
        return row;
    }

    /** All that an object tells of its bank and of what is so, and some of what would be; of a yard of 20 cells some 230 calls. */
    static String all(GaleBank x) {
        StringBuilder b = new StringBuilder();
        for (int what = 0; what < 8; what++) {
            b.append(x.count(what)).append(' ').append(x.now(what)).append(' ');
        }
        for (int y = 0; y < x.count(1); y++) {
            for (int i = 0; i < x.count(0); i++) {
                b.append(x.cell(10 * y + i, 0)).append(x.cell(10 * y + i, 1)).append(x.cell(10 * y + i, 2)).append(' ');
            }
        }
        for (int quarter = 0; quarter < 48; quarter++) {
            b.append(x.gust(quarter, 0)).append(x.gust(quarter, 1)).append(' ');
        }
        for (int o = 0; o < x.count(2); o++) {
            for (int what = 0; what < 11; what++) {
                b.append(x.owner(o, what)).append(' ');
            }
            b.append(x.has(o, 0)).append(' ').append(x.fence(o)).append(' ').append(x.drawn(o, 48, 3)).append(' ');
            for (int tree = 0; tree < x.count(3); tree++) {
                b.append(x.suit(o, tree)).append(' ');
            }
        }
        b.append(x.rests(-1)).append(' ').append(x.richest()).append(' ').append(x.said(-1)).append(' ').append(x.said(0));
        b.append(' ').append(x.judge(0));
        for (int what = 0; what < 5; what++) {
            b.append(' ').append(x.judged(what));
        }
        return b.toString();
    }

    void same(String what, String got, String want) {
        asked++;
        if (!got.equals(want)) {
            wrong++;
            System.out.println(promise + ": " + what + " told " + got + ", due is " + want);
        }
    }

    static int bank(GaleBank x, String text) {
        tape(x, bytes(text));
        return x.bank();
    }

    static int plan(GaleBank x, String text) {
        tape(x, bytes(text));
        return x.plan();
    }

    static int sentence(GaleBank x, String text) {
        tape(x, bytes(text));
        return x.sentence();
    }

    static GaleBank of(String text) {
        GaleBank x = new GaleBank();
        int lines = bank(x, text);
        if (lines < 0) {
            throw new IllegalStateException("a test's own bank has a fault at " + (-1 - lines) + ": " + text);
        }
        return x;
    }
}
