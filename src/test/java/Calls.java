import java.nio.charset.StandardCharsets;
import java.util.NoSuchElementException;

/** Feeds texts to a GaleBank and counts answers that are not as due. */
final class Calls {
    private int wrong = 0;
    private int asked = 0;
    private String promise = "";

    void promise(String name) {
        promise = name;
    }

    void due(String what, int got, int want) {
        asked++;
        if (got != want) {
            wrong++;
            System.out.println(promise + ": " + what + " answered " + got + ", due is " + want);
        }
    }

    void due(String what, boolean got, boolean want) {
        due(what, got ? 1 : 0, want ? 1 : 0);
    }

    void dueThrow(String what, Runnable call) {
        int thrown = 0;
        try {
            call.run();
        } catch (NoSuchElementException e) {
            thrown = 1;
        }
        due(what + " throws NoSuchElementException", thrown, 1);
    }

    /** Ends the program as a test has to end. */
    void finish() {
        System.out.println(asked + " answers, " + wrong + " not as due");
        if (wrong != 0 || asked == 0) {
            System.exit(1);
        }
    }

    static void tape(GaleBank x, byte[] bytes) {
        int before = x.count(8);
        for (int i = 0; i < bytes.length; i += 20) {
            int[] fours = new int[5];
            for (int j = 0; j < 20; j++) {
                int b = i + j < bytes.length ? bytes[i + j] & 255 : 0;
                fours[j / 4] = fours[j / 4] << 8 | b;
            }
            x.feed(fours[0], fours[1], fours[2], fours[3], fours[4]);
        }
        x.end(before + bytes.length);
    }

    static byte[] bytes(String text) {
        return text.getBytes(StandardCharsets.ISO_8859_1);
    }

    static byte[] bytes(int... numbers) {
        byte[] row = new byte[numbers.length];
        for (int i = 0; i < row.length; i++) {
            row[i] = (byte) numbers[i];
        }
        return row;
    }

    static int bank(GaleBank x, String text) {
        tape(x, bytes(text));
        return x.bank();
    }

    static int plan(GaleBank x, String text) {
        tape(x, bytes(text));
        return x.plan();
    }

    static int sentence(GaleBank x, String text) {
        tape(x, bytes(text));
        return x.sentence();
    }

    static GaleBank of(String text) {
        GaleBank x = new GaleBank();
        int lines = bank(x, text);
        if (lines < 0) {
            throw new IllegalStateException("a test's own bank has a fault at " + (-1 - lines) + ": " + text);
        }
        return x;
    }
}
