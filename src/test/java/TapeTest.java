/** Promises 1 to 3, and the tape in those that take it. */
public final class TapeTest {
    public static void main(String[] args) {
        Calls c = new Calls();
        newObject(c);
        feed(c);
        end(c);
        emptied(c);
        c.finish();
    }

    private static void newObject(Calls c) {
        c.promise("1 a new object");
        GaleBank x = new GaleBank();
        for (int what = 0; what < 9; what++) {
            c.due("count " + what, x.count(what), 0);
        }
        int[] now = {0, 0, 0, 0, 0, 0, -1, 0, -1};
        for (int what = 0; what < now.length; what++) {
            c.due("now " + what, x.now(what), now[what]);
        }
        c.due("fault", x.fault(), 0);
        c.due("more", x.more(), -1);
        c.due("judged", x.judged(0), -1);
        c.due("oiledAt", x.oiledAt(0), -1);
        c.due("said", x.said(-1), -1);
        c.due("undo", x.undo(), -1);
        c.due("restore", x.restore(0), false);
    }

    private static void feed(Calls c) {
        c.promise("2 feed");
        GaleBank x = new GaleBank();
        for (int i = 1; i <= 47; i++) {
            c.due("feed " + i, x.feed(0, 0, 0, 0, 0), 20 * i);
        }
        c.due("feed beyond 940", x.feed(1, 2, 3, 4, 5), -1);
        c.due("none came", x.count(8), 940);
        x.end(921);
        c.due("feed to 941", x.feed(0, 0, 0, 0, 0), -1);
        x.end(920);
        c.due("feed to 940", x.feed(0, 0, 0, 0, 0), 940);
        x.end(0);
        // "run 7 99;" and "run 5 1 ;": the highest byte of each number is first.
        x.feed(0x72756e20, 0x37203939, 0x3b202020, 0x20202020, 0x20202020);
        c.due("its text as a bank", x.bank(), 1);
        c.due("EACH", x.count(5), 7);
        c.due("CASH", x.count(6), 99);
        x.feed(0x20202020, 0x20202020, 0x20202020, 0x20202020, 0x2072756e);
        c.due("behind the tape", x.feed(0x20352031, 0x3b202020, 0x20202020, 0x20202020, 0x20202020), 40);
        c.due("a word across feeds", x.bank(), 1);
        c.due("EACH", x.count(5), 5);
        x.feed(0x80ffffff, 0, 0, 0, 0);
        c.due("a byte above 127 is no token", x.bank(), -1);
    }

    private static void end(Calls c) {
        c.promise("3 end");
        GaleBank x = new GaleBank();
        c.due("end 0 of none", x.end(0), true);
        c.due("end 1 of none", x.end(1), false);
        x.feed(1, 2, 3, 4, 5);
        c.due("end 21", x.end(21), false);
        c.due("end -1", x.end(-1), false);
        c.due("it stays", x.count(8), 20);
        c.due("end 20", x.end(20), true);
        c.due("end 3", x.end(3), true);
        c.due("has 3", x.count(8), 3);
        c.due("end 4", x.end(4), false);
        c.due("feed behind it", x.feed(0, 0, 0, 0, 0), 23);
    }

    private static void emptied(Calls c) {
        c.promise("4 the tape is empty then");
        GaleBank x = Calls.of("yard 2 2;owner a 0 0 1 1 1;");
        for (int i = 0; i < 5; i++) {
            x.feed(0x41000000, 0, 0, 0, 0);
            int answer = i == 0 ? x.bank() : i == 1 ? x.plan() : i == 2 ? x.sentence() : i == 3 ? x.oiled() : x.worth(0);
            c.due("refused " + i, answer < 0, true);
            c.due("the tape " + i, x.count(8), 0);
        }
        x.feed(0, 0, 0, 0, 0);
        x.rests(-1);
        x.drawn(0, 1, 1);
        c.due("other calls leave it", x.count(8), 20);
    }
}
