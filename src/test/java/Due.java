import java.nio.charset.StandardCharsets;
import java.util.Arrays;
import java.util.function.IntUnaryOperator;

/** What the tests share: due answers, and texts fed to an object. */
final class Due {
    private int wrong = 0;
    private int seen = 0;

    void same(String what, long got, long want) {
        seen++;
        if (got != want) {
            wrong++;
            System.out.println(what + " answered " + got + ", due is " + want);
        }
    }

    void same(String what, String got, String want) {
        seen++;
        if (!got.equals(want)) {
            wrong++;
            System.out.println(what + " is\n" + got + ", due is\n" + want);
        }
    }

    void yes(String what, boolean got) {
        same(what, got ? 1 : 0, 1);
    }

    void no(String what, boolean got) {
        same(what, got ? 1 : 0, 0);
    }

    /** A call answers NONE for the numbers next to least .. most, and for those farthest off. */
    void outside(String what, IntUnaryOperator call, int least, int most) {
        for (int number : new int[] {least - 1, most + 1, Integer.MIN_VALUE, Integer.MAX_VALUE}) {
            same(what + ": for " + number, call.applyAsInt(number), -1);
        }
    }

    /** What lies there is just this row. */
    void lie(String what, CliffJudges x, int... due) {
        same(what + ": how many lie", x.about(16), due.length);
        for (int i = 0; i < due.length; i++) {
            same(what + ": lies " + i, x.lies(i), due[i]);
        }
        same(what + ": lies behind", x.lies(due.length), -1);
    }

    /** A new object to which a good text was told. */
    CliffJudges hills(String text) {
        CliffJudges x = new CliffJudges();
        int cliffs = tell(x, text);
        same("fault of " + text, x.fault(0), 0);
        same("hills of " + text, cliffs, x.about(0));
        return x;
    }

    /** A text has its first FAULT at a place (0, -1: it has none). */
    void fault(String what, String text, int code, int place) {
        CliffJudges x = new CliffJudges();
        int got = tell(x, text);
        same(what + ": hills of " + text, got == -1 ? -1 : 0, code == 0 ? 0 : -1);
        same(what + ": fault of " + text, x.fault(0), code);
        same(what + ": its place in " + text, x.fault(1), place);
    }

    void good(String what, String text) {
        fault(what, text, 0, -1);
    }

    /** Ends the program with exit code 1 if an answer was wrong. */
    void close() {
        System.out.println(seen + " answers looked at, " + wrong + " wrong");
        if (wrong != 0) {
            System.exit(1);
        }
    }

    static void say(CliffJudges x, int cry, int... words) {
        for (int word : words) {
            x.say(cry, word);
        }
    }

    /** Lines that are the same but for a letter, which stands for each # in them: a, b, c and so on. */
    static String many(int n, String line) {
        StringBuilder all = new StringBuilder();
        for (int i = 0; i < n; i++) {
            all.append(line.replace('#', (char) ('a' + i)));
        }
        return all.toString();
    }

    /** Feeds a text (latin-1) and calls end(); the text must be at most 1,600 bytes. */
    static void feed(CliffJudges x, String text) {
        byte[] bytes = text.getBytes(StandardCharsets.ISO_8859_1);
        int before = x.about(14);
        for (int at = 0; at < bytes.length; at += 20) {
            byte[] part = Arrays.copyOfRange(bytes, at, at + 20);
            x.feed(number(part, 0), number(part, 4), number(part, 8), number(part, 12), number(part, 16));
        }
        x.end(before + bytes.length);
    }

    static int tell(CliffJudges x, String text) {
        feed(x, text);
        return x.hills();
    }

    private static int number(byte[] bytes, int at) {
        return (bytes[at] & 255) << 24 | (bytes[at + 1] & 255) << 16 | (bytes[at + 2] & 255) << 8 | bytes[at + 3] & 255;
    }
}
