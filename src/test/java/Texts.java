import java.util.ArrayList;
import java.util.Collections;
import java.util.List;
import java.util.Random;

/** Texts of HILLS made up by chance, good ones and broken ones. */
final class Texts {
    private static final String[] BACK = {"3-snow", "2+(far<5)-snow", "long-far%3", "1+blows%3", "4-far/20-snow/3", "long",
        "5-(snow>4)*3", "far/10-blows", "long*2/3+(far>50)"};
    private static final String[] LOST = {"loud<2 and behind=1", "chance%4=behind", "loud+blows<4", "chance<far and loud<5",
        "behind%2=snow%2", "loud<chance/10", "(behind+far)%3=0", "not (loud>snow) and behind>0", "loud=0"};
    private static final String[] TURN = {"far>15", "snow>2", "blows%2", "long%2=1", "1", "0", "far%2=blows%2"};
    private static final String[] FACTS = {"far", "blows", "snow", "long", "loud", "behind", "chance"};

    private final Random random;

    Texts(Random random) {
        this.random = random;
    }

    private int to(int n) {
        return random.nextInt(n);
    }

    private boolean odds(int percent) {
        return to(100) < percent;
    }

    private String one(String... of) {
        return of[to(of.length)];
    }

    private String gap() {
        return one(" ", " ", " ", "\n", "  ");
    }

    String good(int mostWords) {
        List<String> lines = new ArrayList<>();
        int words = 1 + to(mostWords);
        int states = odds(5) ? 0 : 1 + to(6);
        int cliffs = odds(4) ? 0 : 1 + to(4);
        int men = 1 + to(4);
        for (int i = 0; i < words; i++) {
            lines.add("word" + gap() + (char) ('a' + i) + (odds(60) ? " loud" + gap() + to(10) : "") + ";");
        }
        for (int i = 0; i < cliffs; i++) {
            lines.add("cliff c" + (char) ('a' + i) + " at " + (odds(70) ? to(30) : to(100)) + (odds(50) ? " snow" + to(10) : "") + ";");
        }
        for (int i = 0; i < men; i++) {
            lines.add("man " + (char) ('a' + i) + " at " + (odds(70) ? to(30) : to(100)) + (odds(50) ? " voice " + to(10) : "") + ";");
        }
        for (int i = 0; i < states; i++) {
            lines.add("state " + (char) ('s' + i) + (odds(35) ? " yes" : "") + ";");
        }
        addOnce(lines);
        // Lines of on need what they name ahead of them; the others may stand anywhere among them.
        if (odds(30)) {
            Collections.shuffle(lines, random);
        }
        addOns(lines, states, words);
        StringBuilder all = new StringBuilder();
        for (String line : lines) {
            all.append(line).append(one("", "", " ", "\n"));
        }
        return all.toString();
    }

    private void addOnce(List<String> lines) {
        if (odds(85)) {
            lines.add("back " + (odds(50) ? one(BACK) : formula(0, 3)) + ";");
        }
        if (odds(75)) {
            lines.add("lost " + (odds(60) ? one(LOST) : formula(0, 3)) + ";");
        }
        if (odds(60)) {
            lines.add("turn " + (odds(70) ? one(TURN) : formula(0, 2)) + ";");
        }
        if (odds(60)) {
            lines.add("wind " + to(10) + ";");
        }
        if (odds(60)) {
            lines.add("draw " + to(1000) + ";");
        }
    }

    private void addOns(List<String> lines, int states, int words) {
        int ons = 0;
        for (int s = 0; s < states; s++) {
            for (int w = 0; w < words; w++) {
                if (odds(65) && ons < 30) {
                    ons++;
                    lines.add("on " + (char) ('s' + s) + " " + (char) ('a' + w) + " to " + (char) ('s' + to(states)) + ";");
                }
            }
        }
    }

    /** An e by chance, rarely deeper or longer than may be. */
    String formula(int level, int depth) {
        switch (level) {
            case 0: return many(1, depth, " or ", 20);
            case 1: return many(2, depth, " and ", 25);
            case 2:
                if (odds(15)) {
                    return "not " + formula(2, depth);
                }
                return formula(3, depth) + (odds(40) ? one("<", ">", "=") + formula(3, depth) : "");
            case 3: return many(4, depth, one("+", "-", " + "), 40);
            case 4: return many(5, depth, one("*", "/", "%"), 30);
            default:
                if (depth > 0 && odds(20)) {
                    return "(" + formula(0, depth - 1) + ")";
                }
                return odds(45) ? "" + (odds(85) ? to(12) : to(10000)) : one(FACTS);
        }
    }

    private String many(int level, int depth, String by, int percent) {
        StringBuilder all = new StringBuilder(formula(level, depth));
        while (odds(percent)) {
            all.append(by).append(formula(level, depth));
        }
        return all.toString();
    }

    /** A text with something wrong in it, most likely. */
    String broken(int mostWords) {
        StringBuilder text = new StringBuilder(good(mostWords));
        int times = 1 + to(3);
        for (int i = 0; i < times && text.length() > 0; i++) {
            int at = to(text.length());
            switch (to(11)) {
                case 0 -> text.deleteCharAt(at);
                case 1 -> text.insert(at, one("a", "7", ";", "(", ")", "$", "Z", " ", "=", "99", "10000", "\t", "\u00e9", "abcdefghi"));
                case 2 -> text.setLength(at);
                case 3 -> text.insert(at, one(" not ", " or ", " yes ", " at ", " to ", " loud 3 ", " state ", " on ", "123 "));
                case 4 -> text.insert(lineStart(text, at), one("word a;", "cliff ca at 7;", "man zz at 9 voice 3;", "state q;", "wind 3;", "draw 1;"));
                case 5 -> text.insert(lineStart(text, at), text.substring(lineStart(text, at), lineEnd(text, at)));
                case 6 -> text.append(one("back ", "lost ", "turn ")).append("(".repeat(to(9))).append("not ".repeat(to(8))).append(long1());
                case 7 -> swapBehind(text, at, one("at ", "loud ", "voice ", "snow", "wind ", "draw "), one("10", "99", "100", "1000", "0009", "9999"));
                case 8 -> swapBehind(text, at, one("on ", "to ", "state ", "word ", "cliff ", "man "), one("zz", "a", "s", "far", "ca", "3", "t"));
                default -> text.setCharAt(at, (char) to(256));
            }
        }
        text.setLength(Math.min(text.length(), 1600));
        return text.toString();
    }

    /** Puts something in place of the TOKEN behind a word. */
    private static void swapBehind(StringBuilder text, int from, String word, String by) {
        int at = text.indexOf(word, from);
        if (at >= 0) {
            int start = at + word.length();
            int end = start;
            while (end < text.length() && Character.isLetterOrDigit(text.charAt(end))) {
                end++;
            }
            text.replace(start, end, by);
        }
    }

    private String long1() {
        return "1" + "+1".repeat(to(33)) + ";";
    }

    private static int lineStart(StringBuilder text, int at) {
        return text.lastIndexOf(";", Math.max(0, at - 1)) + 1;
    }

    private static int lineEnd(StringBuilder text, int at) {
        int end = text.indexOf(";", at);
        return end < 0 ? text.length() : end + 1;
    }
}
