import java.lang.reflect.Method;
import java.lang.reflect.Modifier;
import java.util.Arrays;
import java.util.List;
import java.util.Set;
import java.util.TreeSet;
import java.util.stream.Collectors;

/** The document from its first line up to its constants, each sentence quoted in its order and held against the class. */
public final class DocTermsTest {
    private static final Due DUE = new Due();
    private static final Doc DOC = new Doc(DUE, "# CliffJudges", "The constants:");
    private static final List<String> KEYS = List.of("word", "loud", "cliff", "at", "snow", "man", "voice", "state", "yes", "on", "to", "back", "lost",
        "turn", "wind", "draw", "or", "and", "not", "far", "blows", "long", "behind", "chance");

    // x sends the last 3, y the last 1; a row is a YES by a, by a b no more, by a b c again; b is lost with 2 behind it by voice 0.
    private static final String VALLEY = "word a loud 2;word b;word c loud 6;cliff x at 30;cliff y at 60 snow 2;man m at 40 voice 1;man o at 55;"
        + "state s;state t yes;state u;on s a to t;on t b to u;on u c to t;back 3-snow;lost loud<1 and behind=2;turn far>25;";

    public static void main(String[] args) {
        whatItIs();
        publicFace();
        aText();
        linesOfAText();
        formulas();
        tokens();
        limits();
        faults();
        whatComesBack();
        whatIsGone();
        theOtherWayAbout();
        reckoning();
        yesAndVerdict();
        inEarnest();
        acts();
        undone();
        askedNow();
        pardonsAndAhead();
        yeasAndSweep();
        rhymeAndJoined();
        luckWindsMoreWay();
        sounds();
        DOC.close();
        DUE.close();
    }

    private static CliffJudges hills(String text) {
        return DUE.hills(text);
    }

    private static void good(String text) {
        DUE.good("good", text);
    }

    /** The first FAULT stands where | is, which is taken out. */
    private static void fault(int code, String text) {
        DUE.fault("FAULT", text.replace("|", ""), code, text.indexOf('|'));
    }

    private static int echo(String lines, int... cry) {
        CliffJudges x = hills("word a loud 1;word b loud 5;word c;cliff x at 20 snow 2;man m at 26 voice 3;wind 4;" + lines);
        Due.say(x, 0, cry);
        int row = 0;
        int came = x.echo(0, 0);
        for (int i = 0; i < came; i++) {
            row = row * 10 + x.lies(i) + 1;
        }
        return row;
    }

    private static void whatItIs() {
        DOC.says("# CliffJudges ## What it is Three words back: hills in which cliffs are the judges, and the last words of a cry that come back are the "
            + "sentence; words more or less loud, cliffs and callers along a line, snow on ledges, how many words come back, which are lost, when they come "
            + "turned about, as whole formulas of distance, wind, snow, length, loudness and draw, a law by which words lead from state to state, told in a "
            + "text; cries said word by word, called, noons with wind and snow, ledges swept, in earnest, undone; what comes back from each cliff, which one "
            + "binds; the fewest words for a pardon by all cliffs, how many such cries there are; what can have been said ahead of what came back; from where "
            + "a cry is a yes; the fewest ledges to sweep, the fewest words to turn it; two who call at once; odds of a draw; where one stood by how much came "
            + "back, known in two times, the next cry to listen to; images gone on from. ==== 1.");
        DUE.same("three words back, the last ones", echo("", 0, 0, 1, 2, 1), 232);
        DOC.says("An object is used for at most 512 calls after it has been made; what later calls answer is free.");
        CliffJudges x = new CliffJudges();
        x.feed(0x776f7264, 0x20613b20, 0x20202020, 0x20202020, 0x20202020);
        x.hills();
        for (int call = 2; call < 512; call += 5) {
            DUE.same("said, call " + call, x.say(0, 0), 1);
            DUE.same("it is there", x.said(0, 0), 0);
            DUE.yes("undone", x.undo());
            DUE.yes("redone", x.redo());
            DUE.same("unsaid", x.unsay(0), 0);
        }
    }

    private static void publicFace() {
        DOC.says("## The public face");
        if (!Doc.isThere()) {
            return;
        }
        Set<String> due = new TreeSet<>();
        for (String line : Doc.linesBetween("```java\n", "\n```")) {
            DOC.says(line);
            if (line.contains("(") && !line.contains("CliffJudges()")) {
                due.add(line.trim().replaceAll("(int|boolean) [a-z]+(?=[,)])", "$1").replace(";", ""));
            }
        }
        Set<String> got = Arrays.stream(CliffJudges.class.getDeclaredMethods()).filter(m -> Modifier.isPublic(m.getModifiers()))
            .map(DocTermsTest::signature).collect(Collectors.toCollection(TreeSet::new));
        DUE.same("the methods", got.toString(), due.toString());
        DUE.same("so many", due.size(), 38);
        DUE.same("public final class", CliffJudges.class.getModifiers(), Modifier.PUBLIC | Modifier.FINAL);
    }

    private static String signature(Method m) {
        String types = Arrays.stream(m.getParameterTypes()).map(Class::getName).collect(Collectors.joining(", "));
        return Modifier.toString(m.getModifiers()) + " " + m.getReturnType().getName() + " " + m.getName() + "(" + types + ")";
    }

    private static void aText() {
        DOC.says("## Terms HILLS are a text of at most 1,600 bytes (empty at first): hills = {line}.");
        good("wind 3;" + " ".repeat(1593));
        good("");
        good("wind 3;");
        good("wind 3;draw 3;word a;word b;");
        DUE.same("empty at first", new CliffJudges().about(0) + new CliffJudges().about(1) + new CliffJudges().about(5), 0);
        DUE.same("an empty text", new CliffJudges().hills(), 0);
    }

    /** One TOKEN of a line is left out: the next one can't stand there, but for what may be left out. */
    private static void linesOfAText() {
        DOC.says("line = word NAME [loud N] ; | cliff NAME at N [snow N] ; | man NAME at N [voice N] ; | state NAME [yes] ; | on NAME NAME to NAME ; "
            + "| back e ; | lost e ; | turn e ; | wind N ; | draw N ;.");
        String ahead = "word a;state s;state t;";
        List<String> forms = List.of("word b loud 3 ;", "cliff b at 5 snow 2 ;", "man b at 5 voice 2 ;", "state b yes ;", "on s a to t ;", "back 1 ;",
            "lost 1 ;", "turn 1 ;", "wind 1 ;", "draw 1 ;");
        for (String form : forms) {
            good(ahead + form);
            good(ahead + form.replaceAll(" (loud|snow|voice) \\d| yes", ""));
            String[] tokens = form.split(" ");
            for (int left = 0; left < tokens.length; left++) {
                StringBuilder text = new StringBuilder(ahead);
                int place = 0;
                for (int i = 0; i < tokens.length; i++) {
                    text.append(i == left ? "" : tokens[i] + " ");
                    place = i == left ? text.length() : place;
                }
                if (tokens[left].equals("yes")) {
                    good(text.toString());
                } else {
                    // Without its STATE a line of on goes on with a WORD, and no STATE has that NAME.
                    int code = tokens[left].equals("s") ? 5 : 2;
                    DUE.fault("without " + tokens[left], text.toString(), code, place);
                }
            }
        }
        good("word a loud 9;cliff c at 99 snow 9;man m at 0 voice 0;state s yes;on s a to s;back 1;lost 2;turn 3;wind 4;draw 5;");
        fault(2, "|loud 3;");
        fault(2, "word a |snow 3;");
        fault(2, "cliff c at 3 |loud 3;");
        fault(2, "cliff c at 3 snow 3 |snow 3;");
    }

    private static void comesTo(String e, int value) {
        String number = value < 0 ? "(0-" + -value + ")" : "" + value;
        CliffJudges x = hills("word a loud 7;cliff x at 12 snow 3;man m at 7 voice 2;wind 6;back (" + e + ")=" + number + ";");
        x.say(0, 0);
        DUE.same(e + " = " + value, x.echo(0, 0), 1);
    }

    private static void formulas() {
        DOC.says("e = both {or both}.");
        comesTo("7", 7);
        comesTo("0 or 7", 1);
        comesTo("0 or 0 or 7", 1);
        comesTo("0 or 0", 0);
        DOC.says("both = one {and one}.");
        comesTo("2 and 3", 1);
        comesTo("2 and 3 and 0", 0);
        comesTo("1 or 0 and 0", 1);
        comesTo("0 and 0 or 1", 1);
        DOC.says("one = not one | sum [(< | > | =) sum].");
        comesTo("not 5", 0);
        comesTo("not not 5", 1);
        comesTo("not 3=4", 1);
        comesTo("2+3<6", 1);
        comesTo("6>2*3", 0);
        comesTo("7=3+4", 1);
        fault(2, "back 1<2|<3;");
        fault(2, "back 1+|not 1;");
        fault(2, "back 1=|not 1;");
        DOC.says("sum = term {(+ | -) term}.");
        comesTo("9-3-2", 4);
        comesTo("9-3+2", 8);
        comesTo("2+3*4", 14);
        DOC.says("term = unit {(* | / | %) unit}.");
        comesTo("24/4*3", 18);
        comesTo("24/4/3", 2);
        comesTo("17%10/3", 2);
        comesTo("3*5%4", 3);
        DOC.says("unit = N | far | blows | snow | long | loud | behind | chance | ( e ).");
        comesTo("far", 5);
        comesTo("blows", 6);
        comesTo("snow", 3);
        comesTo("long", 1);
        comesTo("loud+behind+chance", 0);
        comesTo("(0 or 2)*(3+4)", 7);
        for (String key : KEYS) {
            if (!List.of("far", "blows", "snow", "long", "loud", "behind", "chance", "not").contains(key)) {
                fault(2, "back |" + key + ";");
            }
        }
    }

    private static void tokens() {
        DOC.says("TOKENS: words (a .. z, 8 at most), N (1 to 4 digits), signs ; ( ) < > = + - * / %;");
        good("word a;word abcdefgh;word zyxwvuts;");
        fault(1, "word |abcdefghi;");
        fault(1, "word |A;");
        good("wind 1;back 9999;draw 0012;");
        fault(1, "back |12345;");
        good("back (1)<2*3/4%5+6-7;lost 1>2;turn 1=2;");
        for (char none : "!\"#$&',.:?@[\\]^_`{}~AZ\t\r\0\u007f\u0080\u00ff".toCharArray()) {
            fault(1, "wind 3;|" + none);
        }
        DOC.says("blanks (32, 10) part them or not;");
        for (String text : new String[] {"wind 3;draw 4;", "wind3;draw4;", "\nwind\n3\n;\ndraw\n4\n;\n", "  wind  3  ;  draw  4  ;  "}) {
            CliffJudges x = hills(text);
            DUE.same("wind and draw of " + text, x.about(5) * 10 + x.about(6), 34);
        }
        DOC.says("each is as long as can be;");
        DUE.same("three NAMES", hills("word ab;word a;word b;").about(1), 3);
        fault(2, "word |wind;");
        good("word windy;");
        fault(2, "back |notfar;");
        good("back not far;");
        fault(4, "wind |12;");
        fault(2, "wind 1 |2;");
        DOC.says("no letter directly behind an N.");
        fault(1, "back |3or 4;");
        good("back 3 or 4;");
        good("back (3)or 4;");
        good("back 3+far;");
        DOC.says("Words that stand for themselves here are no NAMES.");
        for (String key : KEYS) {
            fault(2, "word |" + key + ";");
            fault(2, "cliff |" + key + " at 3;");
            fault(2, "man |" + key + " at 3;");
            fault(2, "state |" + key + ";");
        }
    }

    private static void limits() {
        DOC.says("At most 8 WORDS (loud 0 .. 9), 4 CLIFFS, 4 MEN (both at a place 0 .. 99; snow, voice 0 .. 9: 0 if not told), 6 STATES, 30 lines of on "
            + "(a STATE, a WORD, a STATE, all told ahead, each STATE with each WORD once), numbered as told, each sort by itself;");
        String all = Due.many(8, "word # loud 9;") + Due.many(4, "cliff # at 99 snow 9;") + Due.many(4, "man # at 99 voice 9;") + Due.many(6, "state #;");
        String thirty = all + Due.many(8, "on a # to b;") + Due.many(8, "on b # to c;") + Due.many(8, "on c # to d;") + Due.many(6, "on d # to e;");
        good(thirty);
        for (String more : new String[] {"word i;", "cliff i at 0;", "man i at 0;", "state i;", "on e a to f;"}) {
            fault(2, thirty + "|" + more);
        }
        fault(4, "word a loud |10;");
        fault(4, "cliff a at |100;");
        fault(4, "man a at |100;");
        fault(4, "cliff a at 0 snow |10;");
        fault(4, "man a at 0 voice |10;");
        fault(5, "word a;on |s a to s;state s;");
        fault(5, "state s;on s |a to s;word a;");
        fault(5, "word a;state s;on s a to |t;state t;");
        fault(3, "word a;state s;on s a to s;on s |a to s;");
        CliffJudges x = hills("man p at 11;word a;cliff c at 71 snow 3;state s;word b;man q at 12 voice 4;cliff d at 72;state t;on t b to s;");
        DUE.same("CLIFFS as told", x.cliff(0, 0) * 100 + x.cliff(1, 0), 7172);
        DUE.same("MEN as told", x.man(0, 0) * 100 + x.man(1, 0), 1112);
        DUE.same("snow, 0 if not told", x.cliff(0, 1) * 10 + x.cliff(1, 1), 30);
        DUE.same("voice, 0 if not told", x.man(0, 1) * 10 + x.man(1, 1), 4);
        DUE.same("STATES and WORDS as told", x.leads(1, 1) * 10 + x.leads(1, 0), 1);
        DOC.says("back, lost, turn, wind (0 .. 9; 0), draw (0 .. 999; 0) once each;");
        for (String line : new String[] {"back 1;", "lost 1;", "turn 1;", "wind 9;", "draw 999;"}) {
            good(line);
            fault(2, line + "|" + line);
        }
        fault(4, "wind |10;");
        fault(4, "draw |1000;");
        DUE.same("wind and draw, 0 if not told", hills("word a;").about(5) + hills("word a;").about(6), 0);
        DUE.same("wind and draw as told", hills("wind 9;draw 999;").about(5) * 1000 + hills("wind 9;draw 999;").about(6), 9999);
        DOC.says("60 units in all, 30 in one e (a unit ( e ), or a one behind not, within 6 others at most).");
        String ones = "1" + "+1".repeat(29);
        DUE.same("60 units", hills("back " + ones + ";turn " + ones + ";").about(15), 60);
        fault(2, "back " + ones + "+|1;");
        fault(2, "back " + ones + ";turn " + ones + ";lost |1;");
        DUE.same("7, each within the others", hills("back (((((((1)))))));").about(15), 8);
        fault(2, "back (((((((|(1))))))));");
        good("back not not not not not not not 1;");
        fault(2, "back not not not not not not not |not 1;");
        good("back not (not (not (not 1)));");
        fault(2, "back not (not (not (not |(1))));");
    }

    private static void faults() {
        DOC.says("FAULTS, the first by its place (bytes from 0; the end: the text's length), at one place the least:");
        fault(1, "|$");
        fault(2, "|;$");
        fault(4, "wind |10;$;word word;");
        fault(2, "wind 3|");
        fault(2, "wind 3  \n|");
        fault(1, "wind |00010;");
        fault(1, "word a;word |aaaaaaaaa;");
        DOC.says("1 no TOKEN;");
        fault(1, "word a |& b;");
        DOC.says("2 one that can't stand there (one of a sort too many or a second time: at the line's first word; a unit too many, what is within 7 others: at "
            + "its first TOKEN, or the not);");
        fault(2, "word a |b;");
        fault(2, Due.many(4, "cliff # at 1;") + "|cliff a at 100;");
        fault(2, Due.many(8, "word #;") + "|word a;");
        fault(2, "turn 1;|turn $;");
        fault(2, "back 1" + "+1".repeat(29) + "+|(1);");
        fault(2, "back 1" + "+1".repeat(29) + " and not |1;");
        fault(2, "back ((((((not |(1)))))));");
        fault(2, "back (((((((|not 1)))))));");
        DOC.says("3 a NAME told already (of its sort), a STATE with a WORD told already (at the WORD);");
        fault(3, "word a;cliff a at 1;man a at 1;state a;word |a;");
        fault(3, "cliff a at 1;cliff |a at 1;");
        fault(3, "man a at 1;man |a at 1;");
        fault(3, "state a;state |a yes;");
        fault(3, "word a;word b;state a;on a a to a;on a b to a;on a |b to c;");
        DOC.says("4 a number that can't be;");
        fault(4, "man m at |0100;");
        DOC.says("5 a NAME that nothing of the sort has.");
        fault(5, "word a;man m at 1;on |m a to m;");
    }

    private static void whatComesBack() {
        DOC.says("==== 2. A CRY is a row of at most 10 WORDS.");
        CliffJudges x = hills("word a;word b;");
        for (int i = 1; i <= 11; i++) {
            DUE.same("WORD " + i, x.say(0, i % 2), i <= 10 ? i : -1);
        }
        DOC.says("Its ECHO from a CLIFF, called at a place with a voice: so many of its last WORDS as comes of back (3, if it is not told; 0 at least, all at "
            + "most; by far: from the place to the CLIFF; blows: the wind; snow: of the CLIFF; long: how many WORDS the CRY has);");
        DUE.same("3, if it is not told", echo("", 0, 1, 2, 0), 231);
        DUE.same("all at most", echo("back 9;", 0, 1, 2, 0), 1231);
        DUE.same("all at most, if it is not told", echo("", 0, 1), 12);
        DUE.same("0 at least", echo("back 0-3;", 0, 1, 2, 0), 0);
        DUE.same("far 6", echo("back far-4;", 0, 1, 2, 0), 31);
        DUE.same("blows 4", echo("back blows-1;", 0, 1, 2, 0), 231);
        DUE.same("snow 2", echo("back snow;", 0, 1, 2, 0), 31);
        DUE.same("long 4", echo("back long-3;", 0, 1, 2, 0), 1);
    }

    private static void whatIsGone() {
        DOC.says("of these each is gone for which what comes of lost is not 0 (none, if it is not told; likewise, and loud: that of the WORD and the voice "
            + "together; behind: how many WORDS are behind it in the CRY; chance: 0 but where told);");
        DUE.same("none, if it is not told", echo("back 3;", 0, 1, 2), 123);
        DUE.same("not 0", echo("lost 0-1;", 0, 1, 2), 0);
        DUE.same("0", echo("lost 0;", 0, 1, 2), 123);
        DUE.same("b's 5 and the voice's 3", echo("lost loud=8;", 0, 1, 2), 13);
        DUE.same("c's 0 and the voice's 3", echo("lost loud=3;", 0, 1, 2), 12);
        DUE.same("two behind it in the CRY", echo("lost behind=2;", 0, 1, 2), 23);
        DUE.same("of these: what does not come anyway is not made up for", echo("back 2;lost behind=0;", 0, 1, 2), 2);
        DUE.same("likewise by far", echo("lost far=6 and behind=0;", 0, 1, 2), 12);
        DUE.same("likewise by blows", echo("lost blows=4 and behind=0;", 0, 1, 2), 12);
        DUE.same("likewise by snow", echo("lost snow=2 and behind=0;", 0, 1, 2), 12);
        DUE.same("likewise by long", echo("lost long=3 and behind=0;", 0, 1, 2), 12);
        DUE.same("chance is 0", echo("lost chance;", 0, 1, 2), 123);
        DUE.same("chance is 0", echo("lost chance=0;", 0, 1, 2), 0);
    }

    private static void theOtherWayAbout() {
        DOC.says("those that are left come the other way about, if what comes of turn is not 0 (not, if it is not told; by far, blows, snow, long).");
        DUE.same("not, if it is not told", echo("", 0, 1, 2), 123);
        DUE.same("not", echo("turn 0;", 0, 1, 2), 123);
        DUE.same("not 0", echo("turn 0-7;", 0, 1, 2), 321);
        DUE.same("those that are left", echo("turn 1;lost behind=1;", 0, 1, 2), 31);
        DUE.same("of its last ones", echo("turn 1;back 2;", 0, 1, 2), 32);
        DUE.same("by far", echo("turn far=6;", 0, 1, 2), 321);
        DUE.same("by blows", echo("turn blows=4;", 0, 1, 2), 321);
        DUE.same("by snow", echo("turn snow=2;", 0, 1, 2), 321);
        DUE.same("by long, the CRY's, not the ECHO's", echo("back 2;turn long=3;", 0, 1, 2), 32);
    }

    private static void reckoning() {
        DOC.says("(In e ints, wrapping; / cut, % its rest, both by 0: 0; relations, and, or, not are 1 or 0, of what is not 0; what is not told there is 0.)");
        // 65536 * 32768 is the least int, and that less 1 the greatest.
        comesTo("256*256*256*128<0", 1);
        comesTo("256*256*256*128-1>0", 1);
        comesTo("256*256*256*256", 0);
        comesTo("7/2", 3);
        comesTo("(0-7)/2", -3);
        comesTo("7%3", 1);
        comesTo("(0-7)%3", -1);
        comesTo("256*256*256*128/(0-1)=256*256*256*128", 1);
        comesTo("7/0", 0);
        comesTo("7%0", 0);
        comesTo("(3<4)+(4>3)+(4=4)", 3);
        comesTo("(4<4)+(4>4)+(3=4)", 0);
        comesTo("(5 and 6)+(0 or 6)+(not 0)", 3);
        comesTo("(0-1 and 0-2)+(0 or 0-2)", 2);
        comesTo("(5 and 0)+(0 or 0)+(not 5)", 0);
        comesTo("loud", 0);
        comesTo("behind", 0);
        comesTo("chance", 0);
        DUE.same("not told in turn", echo("turn loud or behind or chance;", 0, 1, 2), 123);
    }

    private static void yesAndVerdict() {
        DOC.says("A CLIFF ANSWERS, if some WORD comes back.");
        CliffJudges x = hills("word a;cliff x at 1;cliff y at 9;man m at 1;back far>0;");
        DUE.same("nothing was said", x.answers(0, 0), 0);
        x.say(0, 0);
        DUE.same("y alone", x.answers(0, 0), 2);
        DOC.says("A row of WORDS is a YES, if by it, WORD by WORD from STATE 0 on, one comes to a STATE that is yes (a STATE and a WORD of which no on is told: "
            + "one stays); never without STATES.");
        String law = "word a;word b;word c;cliff x at 1;man m at 1;back long;";
        int[][] rows = {{0}, {0, 1}, {0, 1, 2}, {1}, {0, 2}, {1, 0}, {0, 0, 1}, {2, 1, 0, 1, 2}};
        int[] due = {2, 1, 2, 1, 2, 2, 1, 2};
        for (int i = 0; i < rows.length; i++) {
            CliffJudges y = hills(law + "state s;state t yes;state u;on s a to t;on t b to u;on u c to t;");
            Due.say(y, 0, rows[i]);
            DUE.same("row " + Arrays.toString(rows[i]), y.call(0), due[i]);
            CliffJudges none = hills(law);
            Due.say(none, 0, rows[i]);
            DUE.same("without STATES", none.call(0), 1);
        }
        DOC.says("Of the CLIFFS that ANSWER the nearest one BINDS (of like ones the first): the VERDICT is that its ECHO is a YES, or not.");
        CliffJudges z = hills("word a;word b;cliff w at 90;cliff x at 60;cliff y at 40;cliff z at 51;man m at 50;state s;state t yes;on s a to t;on t b to s;"
            + "back long*(far>5);turn far>20;");
        Due.say(z, 0, 0, 1);
        DUE.same("z does not ANSWER, x and y are like", z.binds(0), 1);
        DUE.same("a b, though w's b a is a YES", z.call(0), 1);
        DUE.same("w's alone is a YES", z.answers(0, 1), 1);
    }

    private static void inEarnest() {
        DOC.says("In earnest there are two CRIES (empty at first), a wind, snow (as told), a SEED (draw, at first), NOONS.");
        CliffJudges x = hills("word a;cliff x at 1 snow 7;wind 4;draw 12;");
        DUE.same("CRIES are empty", x.about(8) + x.about(9), 0);
        DUE.same("wind, SEED, NOONS", x.about(5) * 10000 + x.about(6) * 10 + x.about(7), 40120);
        DUE.same("snow", x.cliff(0, 1), 7);
    }

    private static void acts() {
        DOC.says("ACTS: a WORD is said, behind a CRY; its last one is unsaid; a MAN calls CRY 0: how many VERDICTS were YES, not, none (no CLIFF ANSWERED) is "
            + "counted; a NOON: the SEED becomes its 137-fold and 71 more, modulo 1,000; the wind is its rest by 10; if a tenth of it, cut, is even, there is "
            + "one more snow on all CLIFFS (9 at most); a CLIFF is swept (no snow).");
        CliffJudges x = hills("word a;word b;cliff x at 1 snow 7;cliff y at 2 snow 9;man m at 1;man o at 1;state s;state t yes;on s a to t;wind 4;draw 12;");
        x.call(1);
        x.say(0, 1);
        x.say(1, 0);
        x.call(1);
        x.say(0, 0);
        DUE.same("behind the CRY", x.said(0, 0) * 10 + x.said(0, 1), 10);
        x.call(1);
        x.call(1);
        DUE.same("YES, not, none", x.man(1, 2) * 100 + x.man(1, 3) * 10 + x.man(1, 4), 211);
        x.unsay(0);
        DUE.same("the last one is unsaid", x.about(8) * 10 + x.said(0, 0), 11);
        DUE.same("each is an ACT", x.about(10), 8);
        int[] seeds = {715, 26, 633, 792, 575, 846};
        int[] snows = {7, 8, 8, 8, 8, 9};
        for (int i = 0; i < seeds.length; i++) {
            DUE.same("the wind", x.noon(), seeds[i] % 10);
            DUE.same("the SEED", x.about(6), seeds[i]);
            DUE.same("snow on both, 9 at most", x.cliff(0, 1) * 10 + x.cliff(1, 1), snows[i] * 10 + 9);
        }
        x.sweep(1);
        DUE.same("no snow", x.cliff(0, 1) * 10 + x.cliff(1, 1), 90);
        DUE.same("each is an ACT", x.about(10), 15);
    }

    private static void undone() {
        DOC.says("UNDO takes back the latest ACT that was not, REDO does that again which was taken back last (till another ACT); 40 at most are kept, the "
            + "oldest go.");
        CliffJudges x = hills("word a;word b;word c;cliff x at 1;");
        Due.say(x, 0, 0, 1, 2);
        x.undo();
        x.undo();
        DUE.same("the latest that were not", x.about(8), 1);
        x.redo();
        DUE.same("that which was taken back last", x.about(8) * 10 + x.said(0, 1), 21);
        x.say(1, 2);
        DUE.no("till another ACT", x.redo());
        for (int i = 0; i < 41; i++) {
            x.sweep(0);
        }
        DUE.same("40 are kept", x.about(10), 40);
        for (int i = 0; i < 40; i++) {
            DUE.yes("kept", x.undo());
        }
        DUE.no("the oldest went", x.undo());
        DUE.same("their doing stays", x.about(8) * 10 + x.about(9), 21);
    }

    private static void askedNow() {
        DOC.says("==== 3. (By what is now; nothing is done; chance 0, but for LUCK. CRIES of so many WORDS are ordered WORD by WORD.)");
        // 397 becomes 460: no wind, and one more snow.
        CliffJudges x = hills("word a;cliff x at 1;man m at 1;state s yes;back snow;lost chance+blows;wind 3;draw 397;");
        x.say(0, 0);
        DUE.same("as told", x.answers(0, 0), 0);
        x.noon();
        DUE.same("by what is now", x.answers(0, 0), 1);
        int acts = x.about(10);
        DUE.same("chance 0", x.pardon(0), 1);
        DUE.same("but for LUCK", x.luck(0), 1);
        DUE.same("nothing is done", x.about(10) * 10 + x.about(8), acts * 10 + 1);
        CliffJudges order = hills("word a;word b;word c;cliff x at 1;man m at 1;state s;state t yes;on s b to t;back long=2;");
        order.pardon(0);
        // a b, b b, c b: one row ahead of another by its first WORD.
        DUE.lie("ordered WORD by WORD", order, 0, 1);
    }

    private static void pardonsAndAhead() {
        DOC.says("PARDON of a MAN: a CRY of the fewest WORDS (5 at most) whose ECHO from each CLIFF is a YES (all ANSWER); of like ones the first.");
        CliffJudges x = hills(VALLEY);
        DUE.same("one WORD", x.pardon(0), 1);
        DUE.lie("a", x, 0);
        // From y nothing comes of fewer than 4; then the last two of c must make it: s c, s c.
        CliffJudges four = hills("word b;word c;cliff x at 1;cliff y at 5;man m at 1;state s;state t;state u yes;on s c to t;on t c to u;back 2*(far=0 or long>3);");
        DUE.same("all ANSWER", four.pardon(0), 4);
        DUE.lie("of like ones the first", four, 0, 0, 1, 1);
        CliffJudges six = hills("word a;cliff x at 1;man m at 1;state s yes;back long>5;");
        DUE.same("5 at most", six.pardon(0), -1);
        DOC.says("PARDONS: how many of just n WORDS there are.");
        DUE.same("a", x.pardons(0, 1), 1);
        DUE.same("a a, b a, c a", x.pardons(0, 2), 3);
        DUE.same("any two but a b, and a", x.pardons(0, 3), 8);
        DUE.same("any, any two but a b, and a", x.pardons(0, 4), 24);
        DUE.same("any two, and c c", four.pardons(0, 4), 4);
        DOC.says("AHEAD: CRIES of just n WORDS that, called by him, come back from a CLIFF just as CRY 1 is.");
        Due.say(x, 1, 2, 0);
        DUE.same("c a, from x", x.ahead(1, 0, 2), 1);
        DUE.lie("c a", x, 2, 0);
        DUE.same("b c a, as b is lost", x.ahead(1, 0, 3), 1);
        DUE.lie("b c a", x, 1, 2, 0);
        DUE.same("any, b c a", x.ahead(1, 0, 4), 3);
        DUE.lie("a b c a", x, 0, 1, 2, 0);
        DUE.same("called by m, b is loud enough", x.ahead(0, 0, 3), 0);
        DUE.same("y never sends two", x.ahead(1, 1, 3), 0);
        x.unsay(1);
        DUE.same("any two and c, from y", x.ahead(1, 1, 3), 9);
    }

    private static void yeasAndSweep() {
        DOC.says("YEAS: places (0 .. 99) from which CRY 0, by a voice, has VERDICT YES.");
        CliffJudges x = hills(VALLEY);
        Due.say(x, 0, 0, 1);
        // a b is a YES turned about alone: from x, more than 25 off, where x BINDS: 0 .. 4.
        DUE.same("0 .. 4", x.yeas(0, 0) * 10000 + x.yeas(0, 1) * 100 + x.yeas(0, 2), 50004);
        x.say(0, 2);
        // a b c is a YES from x, c from y is none: as far as x BINDS, 0 .. 45.
        DUE.same("0 .. 45", x.yeas(0, 0) * 10000 + x.yeas(0, 1) * 100 + x.yeas(0, 2), 460045);
        CliffJudges voice = hills("word a loud 2;cliff x at 50;state s yes;lost loud<far/10;");
        voice.say(0, 0);
        DUE.same("loud 2: up to 29 off", voice.yeas(0, 0) * 10000 + voice.yeas(0, 1) * 100 + voice.yeas(0, 2), 592179);
        DUE.same("loud 4: up to 49 off", voice.yeas(2, 0) * 10000 + voice.yeas(2, 1) * 100 + voice.yeas(2, 2), 990199);
        DOC.says("SWEEP: the fewest CLIFFS without snow by which he has VERDICT YES for CRY 0; of like ones the least as bits.");
        CliffJudges y = hills(VALLEY);
        Due.say(y, 0, 0, 2);
        // m hears a c from x, a YES; o hears c alone from y, and a c if that is swept.
        DUE.same("none", y.clears(0, 0) * 10 + y.clears(0, 1), 0);
        DUE.same("y", y.clears(1, 0) * 10 + y.clears(1, 1), 12);
        // Nothing comes from under snow: either one will do.
        CliffJudges like = hills("word a;cliff x at 40 snow 1;cliff y at 60 snow 1;man m at 50;state s yes;back snow=0;");
        like.say(0, 0);
        DUE.same("one of like ones, the least as bits", like.clears(0, 0) * 10 + like.clears(0, 1), 11);
    }

    private static void rhymeAndJoined() {
        DOC.says("RHYME: the fewest WORDS of CRY 0 (3 at most) with another WORD each in place of them, by which he has VERDICT YES; of like ones the first (by "
            + "their places in the CRY, all of these, then WORD by WORD).");
        CliffJudges x = hills(VALLEY);
        Due.say(x, 0, 1, 2);
        // a c and b a would do; the first place is ahead.
        DUE.same("one", x.rhyme(0), 1);
        DUE.lie("a at the first place", x, 0);
        DUE.same("o hears the last one alone", x.rhyme(1), 1);
        DUE.lie("a at the second place", x, 10);
        CliffJudges more = hills("word a;word b;word c;cliff x at 1;man m at 1;state s;state t;state u;state v;state w yes;on s b to t;on s c to t;on t b to u;"
            + "on t c to u;on u b to v;on u c to v;on v b to w;back long;");
        Due.say(more, 0, 0, 0, 0, 1);
        DUE.same("three", more.rhyme(0), 3);
        DUE.lie("the first of like ones, WORD by WORD", more, 1, 11, 21);
        more.unsay(0);
        more.say(0, 0);
        DUE.same("3 at most", more.rhyme(0), -1);
        more.unsay(0);
        Due.say(more, 0, 1, 1, 1);
        DUE.same("one of three a will do", more.rhyme(0), 1);
        DUE.lie("by places first", more, 1);
        DOC.says("JOINED: he calls CRY 0, another one CRY 1 at once: from each CLIFF the one's ECHO, and behind it the other one's; of those from which something "
            + "comes so the one nearest to the first BINDS.");
        CliffJudges y = hills(VALLEY);
        Due.say(y, 0, 0, 1);
        Due.say(y, 1, 2);
        // From x a b and c: a YES; from y b and c: none. x is nearest to m, y to o.
        DUE.same("m and o: x BINDS", y.joined(0, 1), 2);
        DUE.same("o and m: y BINDS", y.joined(1, 0), 1);
    }

    private static void luckWindsMoreWay() {
        DOC.says("LUCK: chances (0 .. 99) by which his VERDICT is YES.");
        CliffJudges luck = hills("word a;word b;cliff x at 1;man m at 1;state s;state t yes;on s a to t;on t b to s;lost behind=0 and chance>69 or behind=1 and chance<9;");
        Due.say(luck, 0, 0, 1);
        // b is lost from 70 on, a below 9: a comes alone by 70 .. 99.
        DUE.same("30 of 100", luck.luck(0), 30);
        DOC.says("WINDS: those (0 .. 9) by which it is.");
        CliffJudges winds = hills("word a;cliff x at 9;man m at 4;state s yes;lost blows<3 or blows>far;wind 1;");
        winds.say(0, 0);
        DUE.same("3, 4, 5", winds.winds(0), 8 + 16 + 32);
        DOC.says("MORE: WORDS by which, said behind CRY 0, it is.");
        CliffJudges x = hills(VALLEY);
        x.say(0, 0);
        DUE.same("a a, a c", x.more(0), 1 + 4);
        DUE.same("from y a alone", x.more(1), 1);
        DOC.says("WAY to a STATE: the fewest WORDS that lead there from STATE 0; of like ones the first.");
        DUE.same("to u", x.way(2), 2);
        DUE.lie("a b", x, 0, 1);
        CliffJudges like = hills("word a;word b;word c;state s;state t;state u;state v;on s c to t;on s b to u;on t a to v;on u c to v;on u b to v;");
        DUE.same("to v", like.way(3), 2);
        DUE.lie("b b, ahead of b c and c a", like, 1, 1);
    }

    private static void sounds() {
        DOC.says("==== 4. SOUNDS, 30 at most, are TOLD at a TIME (0 at first, goes on), UNTOLD at a later one or the same: of a CRY of n WORDS (1 .. 10) from an "
            + "unknown place a CLIFF sent so many as comes of back, by wind, snow as told in the text.");
        CliffJudges x = hills("cliff x at 20 snow 1;cliff y at 80;back far/10-snow+blows;wind 2;draw 26;");
        DUE.same("0 at first", x.about(13), 0);
        // Wind 3 then, and no snow: 26 becomes 633.
        x.noon();
        x.sweep(0);
        x.later(10);
        // far / 10 - 1 + 2 = 4: 30 .. 39 off.
        DUE.same("TOLD", x.sound(0, 9, 4), 0);
        DUE.same("50 .. 59", x.stood(0, 10) * 10000 + x.stood(1, 10) * 100 + x.stood(2, 10), 105059);
        x.later(10);
        // far / 10 + 2 = 5: 30 .. 39 off, on the other side.
        DUE.same("TOLD later", x.sound(1, 9, 5), 1);
        DUE.same("41 .. 50 as well", x.stood(0, 20) * 10000 + x.stood(1, 20) * 100 + x.stood(2, 20), 15050);
        x.later(10);
        DUE.yes("UNTOLD at a later TIME", x.untell(0));
        DUE.same("TOLD", x.sound(0, 1, 0), 2);
        DUE.yes("UNTOLD at the same", x.untell(2));
        DOC.says("As known at k those count that were TOLD at k or before, not UNTOLD at k or before.");
        int[] ks = {9, 10, 19, 20, 29, 30};
        int[] due = {100, 10, 10, 1, 1, 10};
        for (int i = 0; i < ks.length; i++) {
            DUE.same("as known at " + ks[i], x.stood(0, ks[i]), due[i]);
        }
        DOC.says("STOOD: places (0 .. 99) by which all that count are so.");
        DUE.same("41 .. 50 alone", x.stood(1, 30) * 100 + x.stood(2, 30), 4150);
        DOC.says("ASK: the CLIFF and n for which the most places that are left, whatever comes, are fewest; of like ones the first (by CLIFF, then by n).");
        // 50 .. 59: x sends 4 to all; y 5 to 50 and 4 to the others, so that 5 WORDS part them.
        DUE.same("y, 5 WORDS: 9 are left", x.ask(0, 10) * 100 + x.ask(1, 10), 10509);
        // 50 alone: nothing parts it, the first of all.
        DUE.same("x, 1 WORD: 1 is left", x.ask(0, 20) * 100 + x.ask(1, 20), 101);
        for (int i = 3; i <= 30; i++) {
            DUE.same("30 at most", x.sound(0, 10, 10), i < 30 ? i : -1);
        }
    }
}
