import java.nio.ByteBuffer;
import java.nio.charset.StandardCharsets;
import java.util.Arrays;

/** What the tests share: answers that are due, and texts told by feed and end. */
final class Checks {
    /** Three boys, two canons, two farms: most answers in the tests were reckoned from it by hand. */
    static final String CHOIR = "choir 3 10;boy 9 5 2;boy 4 10 1;boy 20 0 0;likes 0 1 3;likes 1 0 8;likes 2 0 6;likes 2 2 4;"
        + "canon 98 30;canon 60 20;farm 20 5;farm 10 2;way 0 1 2;way 1 2 1;snow 1";

    private final String name;
    private int checked;
    private int wrong;

    Checks(String name) { this.name = name; }

    void due(String what, int want, int got) {
        checked++;
        if (got != want) {
            wrong++;
            System.out.println(name + ": " + what + " answered " + got + ", due is " + want);
        }
    }

    void finish() {
        System.out.println(name + ": " + checked + " answers, " + wrong + " wrong");
        if (wrong > 0) System.exit(1);
    }

    /** What choir and rule answer for a fault of a kind at a place. */
    static int fault(int place, int kind) { return -2 - (1 + 8 * place + kind); }

    static void say(BoyBishop x, String text) {
        byte[] bytes = text.getBytes(StandardCharsets.ISO_8859_1);
        x.end(0);
        for (int i = 0; i < bytes.length; i += 20) {
            ByteBuffer part = ByteBuffer.wrap(Arrays.copyOfRange(bytes, i, i + 20));
            x.feed(part.getInt(), part.getInt(), part.getInt(), part.getInt(), part.getInt());
        }
        if (x.end(bytes.length) != bytes.length) throw new IllegalStateException("too long: " + text);
    }

    static int choir(BoyBishop x, String text) {
        say(x, text);
        return x.choir();
    }

    static int rule(BoyBishop x, String text) {
        say(x, text);
        return x.rule();
    }

    /** A new object with a choir and rules, the last of which is in force. */
    static BoyBishop of(String choir, String... rules) {
        BoyBishop x = new BoyBishop();
        if (choir(x, choir) < 0) throw new IllegalStateException("a fault in " + choir);
        for (String rule : rules) {
            int number = rule(x, rule);
            if (number < 0) throw new IllegalStateException("a fault in " + rule);
            x.force(number);
        }
        return x;
    }

    static BoyBishop days(BoyBishop x, int n) {
        for (int i = 0; i < n; i++) x.day();
        return x;
    }
}
