import java.io.IOException;
import java.net.URL;
import java.net.URLClassLoader;
import java.nio.file.Files;
import java.nio.file.Path;
import java.util.ArrayList;
import java.util.List;
import java.util.regex.Matcher;
import java.util.regex.Pattern;
import javax.tools.ToolProvider;

/**
 * Runs the examples of README.md as they stand there: each call must answer what its comment begins with.
 * They are put into a class of their own, each call as due(call, answer), which is compiled and run.
 */
public final class ReadmeTest {
    private static final Due DUE = new Due();
    private static final Pattern BLOCK = Pattern.compile("(?s)```java\n(.*?)```");
    private static final Pattern CALL = Pattern.compile("(?s)((?:x\\.|tell\\().*?);\\s*// (-?\\d+|true|false)(:.*)?");
    private static final String MADE = "CliffJudges x = new CliffJudges();";
    private static final int LEAST_CALLS = 50;
    // Each of these must be among the examples.
    private static final List<String> SHOWN = List.of("x.feed(", "x.end(", "x.hills(", "x.fault(", "x.say(", "x.call(", "x.echo(", "x.pardon(",
        "x.rhyme(", "x.lies(", "x.undo(", "x.noon(", "x.image(", "x.back(", "x.sound(", "x.stood(", "x.ask(", "x.about(");

    /** Called by the examples. */
    public static void due(String call, Object got, String want) {
        DUE.same("README: " + call, String.valueOf(got), want);
    }

    public static void main(String[] args) throws IOException, ReflectiveOperationException {
        String readme = Files.readString(Path.of("README.md"));
        StringBuilder methods = new StringBuilder();
        StringBuilder calls = new StringBuilder();
        Matcher blocks = BLOCK.matcher(readme);
        int count = 0;
        while (blocks.find()) {
            String block = blocks.group(1);
            if (block.startsWith("static ")) {
                methods.append(block);
            } else {
                List<String> statements = statements(block);
                count += statements.size() - 1;
                calls.append("{\n").append(String.join("\n", statements)).append("\n}\n");
            }
        }
        DUE.yes("README shows " + count + " calls", count >= LEAST_CALLS);
        for (String shown : SHOWN) {
            DUE.yes("README shows " + shown, calls.indexOf(shown) >= 0);
        }
        DUE.yes("README says how to run the tests", readme.contains("`.ci/run`"));
        run("public final class Readme {\n" + methods + "public static void main(String[] args) {\n" + calls + "}\n}\n");
        DUE.close();
    }

    /** A statement ends where a comment does; each but the first names its answer. */
    private static List<String> statements(String block) {
        List<String> all = new ArrayList<>();
        StringBuilder open = new StringBuilder();
        for (String line : block.split("\n")) {
            open.append(open.length() == 0 ? "" : "\n").append(line);
            if (line.contains("//") || line.equals(MADE)) {
                all.add(statement(open.toString()));
                open.setLength(0);
            }
        }
        DUE.same("README: a call without its answer", open.toString(), "");
        return all;
    }

    private static String statement(String text) {
        if (text.equals(MADE)) {
            return text;
        }
        Matcher call = CALL.matcher(text);
        DUE.yes("README: a call and its answer: " + text, call.matches());
        if (!call.matches()) {
            return "";
        }
        String quoted = call.group(1).replace("\\", "\\\\").replace("\"", "\\\"").replace("\n", " ");
        return "ReadmeTest.due(\"" + quoted + "\", " + call.group(1) + ", \"" + call.group(2) + "\");";
    }

    private static void run(String source) throws IOException, ReflectiveOperationException {
        Path dir = Files.createTempDirectory("readme");
        Path file = dir.resolve("Readme.java");
        Files.writeString(file, source);
        int code = ToolProvider.getSystemJavaCompiler().run(null, null, null, "-cp", System.getProperty("java.class.path"), "-d", dir.toString(),
            file.toString());
        DUE.same("README: javac", code, 0);
        if (code == 0) {
            try (URLClassLoader loader = new URLClassLoader(new URL[] {dir.toUri().toURL()}, ReadmeTest.class.getClassLoader())) {
                loader.loadClass("Readme").getMethod("main", String[].class).invoke(null, (Object) new String[0]);
            }
        }
        Files.deleteIfExists(dir.resolve("Readme.class"));
        Files.deleteIfExists(file);
        Files.deleteIfExists(dir);
    }
}
