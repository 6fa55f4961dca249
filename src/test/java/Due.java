import java.nio.charset.StandardCharsets;
import java.util.Arrays;

/** What the tests share: due answers, and texts fed to an object. */
final class Due {
    private int wrong = 0;
    private int seen = 0;

    void same(String what, long got, long want) {
        seen++;
        if (got != want) {
            wrong++;
            System.out.println(what + " answered " + got + ", due is " + want);
        }
    }

    void yes(String what, boolean got) {
        same(what, got ? 1 : 0, 1);
    }

    void no(String what, boolean got) {
        same(what, got ? 1 : 0, 0);
    }

    /** Ends the program with exit code 1 if an answer was wrong. */
    void close() {
        System.out.println(seen + " answers looked at, " + wrong + " wrong");
        if (wrong != 0) {
            System.exit(1);
        }
    }

    /** Feeds a text (latin-1) and calls end(); the text must be at most 1,600 bytes. */
    static void feed(CliffJudges x, String text) {
        byte[] bytes = text.getBytes(StandardCharsets.ISO_8859_1);
        int before = x.about(14);
        for (int at = 0; at < bytes.length; at += 20) {
            byte[] part = Arrays.copyOfRange(bytes, at, at + 20);
            x.feed(number(part, 0), number(part, 4), number(part, 8), number(part, 12), number(part, 16));
        }
        x.end(before + bytes.length);
    }

    static int tell(CliffJudges x, String text) {
        feed(x, text);
        return x.hills();
    }

    private static int number(byte[] bytes, int at) {
        return (bytes[at] & 255) << 24 | (bytes[at + 1] & 255) << 16 | (bytes[at + 2] & 255) << 8 | bytes[at + 3] & 255;
    }
}
