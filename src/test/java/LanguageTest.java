import java.io.IOException;
import java.nio.file.Files;
import java.nio.file.Path;
import java.util.List;
import java.util.regex.Matcher;
import java.util.regex.Pattern;

/** What of ../shared/LANGUAGE.md can be seen in the text of the class. */
public final class LanguageTest {
    private static final List<String> FORBIDDEN = List.of("\\bthrows?\\b", "\\btry\\b", "\\bcatch\\b", "\\bsynchronized\\b",
        "\\bassert\\b", "\\bimport\\b", "\\bpackage\\b", "->", "::", "\\bprotected\\b", "\\bstatic\\s*\\{", "\\bwhile\\s*\\(true\\)",
        "Exact\\b", "\\bvar\\b", "\\bObject\\b", "\\bhashCode\\b", "\\btoString\\b", "@", "\\bnull\\b");
    private static final int MOST_LINES = 60;
    private static final int MOST_PARAMETERS = 7;
    private static final int MOST_CLASSES = 12;

    public static void main(String[] args) throws IOException {
        Due due = new Due();
        String source = Files.readString(Path.of("src/main/java/CliffJudges.java"));
        String code = source.replaceAll("(?s)/\\*.*?\\*/", "").replaceAll("//[^\n]*", "").replaceAll("\"[^\"\n]*\"", "\"\"");
        for (String forbidden : FORBIDDEN) {
            due.no("the class has " + forbidden, Pattern.compile(forbidden).matcher(code).find());
        }
        due.no("texts are joined by +", Pattern.compile("\"\\s*\\+|\\+\\s*\"").matcher(code).find());
        due.yes("the text is of signs 10, 32 .. 126", source.matches("[\n -~]*"));
        Matcher classes = Pattern.compile("\\n {4}private static final class ").matcher(code);
        int count = 0;
        while (classes.find()) {
            count++;
        }
        due.yes(count + " classes inside", count <= MOST_CLASSES);
        lookAtMethods(due, source.split("\n"));
        due.close();
    }

    /** A method begins on a line that ends in ") {", and ends with a brace as far in as that line. */
    private static void lookAtMethods(Due due, String[] lines) {
        Pattern head = Pattern.compile("( {4}| {8})(?!if|for|while|switch|else)[A-Za-z].*\\((.*)\\) \\{");
        int seen = 0;
        for (int i = 0; i < lines.length; i++) {
            Matcher m = head.matcher(lines[i]);
            if (m.matches() && !lines[i].contains(" if ") && !lines[i].contains(" for ")) {
                int end = i;
                while (!lines[end].equals(m.group(1) + "}")) {
                    end++;
                }
                seen++;
                due.yes(lines[i].trim() + " is short", end - i + 1 <= MOST_LINES);
                due.yes(lines[i].trim() + " takes few", m.group(2).split(",").length <= MOST_PARAMETERS);
            }
        }
        due.yes(seen + " methods were looked at", seen > 100);
    }
}
