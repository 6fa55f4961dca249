import java.io.IOException;
import java.io.UncheckedIOException;
import java.nio.file.Files;
import java.nio.file.Path;

/**
 * The document, quoted sentence by sentence in its own order; what no test quotes, or quotes otherwise, is wrong.
 * Where only ../shared/tests is at hand, and no document, the quotes alone are not looked at.
 */
final class Doc {
    private static final Path WHERE = Path.of("../shared/DOC.md");

    private final Due due;
    private final String text;
    private int at;

    /** From one line of the document on up to another one (null: its end). */
    Doc(Due due, String from, String to) {
        this.due = due;
        if (!isThere()) {
            System.out.println("no " + WHERE + " to hold the quotes against");
            text = "";
            return;
        }
        String all = read();
        int start = all.indexOf(plain(from));
        int end = to == null ? all.length() : all.indexOf(plain(to));
        due.yes("the document has " + from, start >= 0);
        due.yes("the document has " + to, end >= start);
        text = start < 0 || end < start ? "" : all.substring(start, end);
    }

    static boolean isThere() {
        return Files.exists(WHERE);
    }

    private static String read() {
        try {
            return plain(Files.readString(WHERE).replaceAll("(?m)^```[a-z]*$", ""));
        } catch (IOException e) {
            throw new UncheckedIOException(e);
        }
    }

    /** Blanks and line ends don't count, nor how a sign is written for a browser. */
    private static String plain(String words) {
        return words.replace("&lt;", "<").replace("&gt;", ">").replaceAll("\\s+", " ").trim();
    }

    /** These words come next in the document. */
    void says(String words) {
        if (!isThere()) {
            return;
        }
        String quote = plain(words);
        while (at < text.length() && text.charAt(at) == ' ') {
            at++;
        }
        boolean next = text.startsWith(quote, at);
        due.yes("the document goes on with: " + words + "\nnot with: " + text.substring(at, Math.min(text.length(), at + 120)) + "\n", next);
        if (next) {
            at += quote.length();
        }
    }

    /** All was quoted. */
    void close() {
        due.same("what no test quotes", text.substring(at).trim(), "");
    }

    /** The lines of the document, which must be there, between two of its lines. */
    static String[] linesBetween(String from, String to) {
        try {
            String all = Files.readString(WHERE);
            int start = all.indexOf(from) + from.length();
            return all.substring(start, all.indexOf(to, start)).split("\n");
        } catch (IOException e) {
            throw new UncheckedIOException(e);
        }
    }
}
