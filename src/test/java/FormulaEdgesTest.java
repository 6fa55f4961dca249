/** Terms 1 and 2: how much an e may hold, what comes of it at its limits, and what an ECHO makes of that. */
public final class FormulaEdgesTest {
    private static final Due DUE = new Due();
    // 8192 * 8192 * 32 is 2 to the 31st, which wraps to the least int.
    private static final String LEAST = "(8192*8192*32)";
    private static final String MOST = "(8192*8192*32-1)";

    public static void main(String[] args) {
        unitsInOne();
        unitsInAll();
        unitsThatAreCounted();
        withinOthers();
        shapes();
        wrapping();
        quotientsAndRests();
        truths();
        factsAtTheirLimits();
        whatIsNotToldThere();
        howManyComeBack();
        whatIsLost();
        whatIsTurned();
        dearestFormulas();
        DUE.close();
    }

    private static String ones(int n) {
        return "1" + "+1".repeat(n - 1);
    }

    /** "30 in one e": "a unit too many: at its first TOKEN". */
    private static void unitsInOne() {
        for (String key : new String[] {"back ", "lost ", "turn "}) {
            DUE.good("29 units", key + ones(29) + ";");
            DUE.good("30 units", key + ones(30) + ";");
            DUE.fault("31 units", key + ones(31) + ";", 2, 65);
            DUE.fault("31 units, the last one a word", key + ones(30) + "*behind;", 2, 65);
            DUE.fault("31 units, the last one ( e )", key + ones(30) + "+(1);", 2, 65);
            DUE.fault("31 units, by a relation", key + ones(30) + "=1;", 2, 65);
            DUE.fault("31 units, by and", key + ones(30) + " and 1;", 2, 69);
            DUE.fault("31 units, by or not", key + ones(30) + " or not 1;", 2, 72);
        }
        DUE.good("( e ) is a unit, with 29 in it", "back (" + ones(29) + ");");
        DUE.fault("( e ) is a unit, with 30 in it", "back (" + ones(30) + ");", 2, 64);
        DUE.good("14 times (1), and 2", "back " + "(1)+".repeat(14) + "1+1;");
        DUE.good("15 times (1)", "back " + "(1)+".repeat(14) + "(1);");
        DUE.fault("15 times (1), and 1", "back " + "(1)+".repeat(15) + "1;", 2, 65);
        DUE.fault("the 31st within ( e )", "back " + ones(29) + "+(1);", 2, 64);
        DUE.fault("what can't be a unit at all", "back " + ones(30) + "+;", 2, 65);
        DUE.good("not is no unit", "back " + "not 1 and ".repeat(29) + "not 1;");
    }

    /** "60 units in all". */
    private static void unitsInAll() {
        String thirty = "back " + ones(30) + ";";
        DUE.same("59", DUE.hills(thirty + "lost " + ones(29) + ";").about(15), 59);
        DUE.same("60", DUE.hills(thirty + "lost " + ones(30) + ";").about(15), 60);
        DUE.same("60 in three", DUE.hills(thirty + "lost " + ones(29) + ";turn 1;").about(15), 60);
        DUE.fault("61 in three", thirty + "lost " + ones(29) + ";turn 1+far;", 2, 135);
        DUE.fault("61, the first of the third", thirty + "lost " + ones(30) + ";turn 1;", 2, 135);
        DUE.fault("61, behind a not", thirty + "lost " + ones(30) + ";turn not 1;", 2, 139);
        DUE.fault("61, a ( e )", thirty + "lost " + ones(30) + ";turn (1);", 2, 135);
        DUE.good("20 each", "back " + ones(20) + ";lost " + ones(20) + ";turn " + ones(20) + ";");
        DUE.fault("20, 20 and 21", "back " + ones(20) + ";lost " + ones(20) + ";turn " + ones(21) + ";", 2, 135);
        DUE.good("60, and other lines with numbers", thirty + "lost " + ones(30) + ";wind 3;cliff c at 5 snow 3;");
        CliffJudges x = DUE.hills(thirty + "lost " + ones(30) + ";");
        DUE.same("a new text counts anew", Due.tell(x, "turn " + ones(30) + ";back " + ones(30) + ";"), 0);
        DUE.same("behind a FAULT it does too", Due.tell(x, thirty + "lost " + ones(31) + ";"), -1);
        DUE.same("60 again", Due.tell(x, thirty + "lost " + ones(30) + ";"), 0);
        DUE.same("units of it", x.about(15), 60);
        toldAgainAndAgain();
    }

    /** However many texts were told: what comes of an e is what the latest text says. */
    private static void toldAgainAndAgain() {
        CliffJudges x = new CliffJudges();
        for (int text = 0; text < 24; text++) {
            String told = "word a;cliff x at 1;man m at 1;back " + ones(29) + "-" + (29 - text % 5) + ";lost " + ones(29) + "-29;";
            DUE.same("text " + text, Due.tell(x, told), 1);
            Due.say(x, 0, 0, 0, 0, 0);
            DUE.same("the e of text " + text, x.echo(0, 0), text % 5);
        }
    }

    private static void unitsThatAreCounted() {
        DUE.same("no e", DUE.hills("wind 3;").about(15), 0);
        DUE.same("one", DUE.hills("back 3;").about(15), 1);
        DUE.same("each word that is a unit", DUE.hills("back far+blows+snow+long+loud+behind+chance;").about(15), 7);
        DUE.same("( e ) and what is in it", DUE.hills("back ((1)+far)*2;").about(15), 5);
        DUE.same("not, and, or, relations are none", DUE.hills("back not 1=2 and 3<4 or 5>6;").about(15), 6);
    }

    /** "(a unit ( e ), or a one behind not, within 6 others at most)": "at its first TOKEN, or the not". */
    private static void withinOthers() {
        for (int depth = 1; depth <= 7; depth++) {
            DUE.good(depth + " times ( e )", "back " + "(".repeat(depth) + "1" + ")".repeat(depth) + ";");
            DUE.good(depth + " times not", "back " + "not ".repeat(depth) + "1;");
            DUE.good("not and ( e ), 7", "back " + "not ".repeat(depth) + "(".repeat(7 - depth) + "1" + ")".repeat(7 - depth) + ";");
            DUE.good("( e ) and not, 7", "back " + "(".repeat(depth) + "not ".repeat(7 - depth) + "1" + ")".repeat(depth) + ";");
            DUE.fault("not and ( e ), 8", "back " + "not ".repeat(depth) + "(".repeat(8 - depth) + "1", 2, 5 + 4 * depth + 7 - depth);
            DUE.fault("( e ) and not, 8", "back " + "(".repeat(depth) + "not ".repeat(8 - depth) + "1", 2, 5 + depth + 4 * (7 - depth));
        }
        DUE.fault("8 times ( e )", "back ((((((((1))))))));", 2, 12);
        DUE.fault("8 times not", "back " + "not ".repeat(8) + "1;", 2, 33);
        DUE.fault("9 times ( e ): the eighth", "back (((((((((1)))))))));", 2, 12);
        DUE.good("7 deep, twice", "back (((((((1)))))))+(((((((1)))))));");
        DUE.good("7 times not, twice", "back " + "not ".repeat(7) + "1 and " + "not ".repeat(7) + "1 or " + "not ".repeat(7) + "1;");
        DUE.fault("the eighth behind a +", "back (((((((1+(1))))))));", 2, 14);
        DUE.fault("the eighth behind a =", "back (((((((1=(1))))))));", 2, 14);
        DUE.fault("the eighth behind a *", "back (((((((1*(1))))))));", 2, 14);
        DUE.fault("the eighth, a not behind and", "back (((((((1 and not 1)))))));", 2, 18);
        DUE.good("the seventh behind it", "back ((((((1 and not 1))))));");
        DUE.good("not does not go on behind its one", "back " + "not ".repeat(7) + "1 and (((((((1)))))));");
        DUE.fault("within its one's second sum", "back " + "not ".repeat(7) + "1=(1);", 2, 35);
    }

    private static void shapes() {
        String[] good = {"1", "far", "(1)", "not 1", "1 or 1", "1 and 1", "1<1", "1>1", "1=1", "1+1", "1-1", "1*1", "1/1", "1%1", "not not 1",
            "1=(1=1)", "not 1=1", "1 and not 1 or not 1"};
        for (String e : good) {
            DUE.good("an e", "back " + e + ";");
        }
        String[] bad = {"", "()", "not", "or 1", "and 1", "+1", "-1", "*1", "1+", "1 or", "1 and", "1<", "1<=1", "1=1=1", "1<1>1", "1+not 1",
            "1=not 1", "(1", "1)", "((1)", "(1;)", "1 1", "far far", "1 far", "x", "word", "yes", "1 not 1", "1(1)", "(1)(1)"};
        int[] places = {0, 1, 3, 0, 0, 0, 0, 0, 2, 4, 5, 2, 2, 3, 3, 2, 2, 2, 1, 4, 2, 2, 4, 2, 0, 0, 0, 2, 1, 3};
        for (int i = 0; i < bad.length; i++) {
            DUE.fault("no e", "back " + bad[i] + ";", 2, 5 + places[i]);
        }
    }

    /** Whether an e comes to a number, which is an e too; both by the facts of one call. */
    private static void comesTo(String what, String e, String number) {
        CliffJudges x = DUE.hills("word a loud 7;cliff x at 12 snow 3;man m at 7 voice 2;wind 6;back (" + e + ")=" + number + ";");
        x.say(0, 0);
        DUE.same(what + ": " + e + " = " + number, x.echo(0, 0), 1);
    }

    /** "In e ints, wrapping". */
    private static void wrapping() {
        comesTo("the least", LEAST + "<0", "1");
        comesTo("the most", MOST + ">0", "1");
        comesTo("one more than the most", MOST + "+1", LEAST);
        comesTo("one less than the least", LEAST + "-1", MOST);
        comesTo("twice the most", MOST + "*2", "(0-2)");
        comesTo("twice the least", LEAST + "*2", "0");
        comesTo("the most by itself", MOST + "*" + MOST, "1");
        comesTo("the least by -1", LEAST + "*(0-1)", LEAST);
        comesTo("0 less the least", "0-" + LEAST, LEAST);
        comesTo("9999 by 9999 by 9999", "9999*9999*9999", "(0-9999*9999*10-9999*2755-2714)");
        comesTo("9999 * 9999 does not wrap", "9999*9999", "(9998*9999+9999)");
        comesTo("65536 * 65536", "256*256*256*256", "0");
        comesTo("65536 * 32768", "256*256*256*128", LEAST);
        comesTo("relations don't go by a difference", LEAST + "<" + MOST, "1");
        comesTo("relations don't go by a difference", MOST + ">" + LEAST, "1");
    }

    /** "/ cut, % its rest, both by 0: 0". */
    private static void quotientsAndRests() {
        comesTo("cut", "7/2", "3");
        comesTo("cut toward 0", "(0-7)/2", "(0-3)");
        comesTo("cut toward 0", "7/(0-2)", "(0-3)");
        comesTo("cut", "(0-7)/(0-2)", "3");
        comesTo("below 1", "1/2", "0");
        comesTo("below 1", "(0-1)/2", "0");
        comesTo("rest", "7%2", "1");
        comesTo("rest of what is below 0", "(0-7)%2", "(0-1)");
        comesTo("rest by what is below 0", "7%(0-2)", "1");
        comesTo("rest", "(0-7)%(0-2)", "(0-1)");
        comesTo("no rest", "(0-8)%4", "0");
        comesTo("by 0", "7/0", "0");
        comesTo("by 0", "7%0", "0");
        comesTo("0 by 0", "0/0", "0");
        comesTo("0 by 0", "0%0", "0");
        comesTo("by what comes to 0", "9999/(far-5)", "0");
        comesTo("by what comes to 0", "9999%(far-5)", "0");
        comesTo("by 0, then more", "3+7/0*5+4", "7");
        comesTo("by 1", "9999/1+9999%1", "9999");
        comesTo("the least over -1", LEAST + "/(0-1)", LEAST);
        comesTo("the least's rest by -1", LEAST + "%(0-1)", "0");
        comesTo("the least by 0", LEAST + "/0+" + LEAST + "%0", "0");
        comesTo("from the left", "100/7/2", "7");
        comesTo("from the left", "100%7*3", "6");
    }

    /** "relations, and, or, not are 1 or 0, of what is not 0". */
    private static void truths() {
        String[] relations = {"1<2", "2<2", "3<2", "1>2", "2>2", "3>2", "1=2", "2=2", "3=2", "0-1<0", "0-1>0", "0-1=0-1"};
        int[] due = {1, 0, 0, 0, 0, 1, 0, 1, 0, 1, 0, 1};
        for (int i = 0; i < relations.length; i++) {
            comesTo("a relation", relations[i], "" + due[i]);
        }
        String[] numbers = {"0", "1", "2", "(0-1)", "9999", LEAST};
        for (int a = 0; a < numbers.length; a++) {
            comesTo("not", "not " + numbers[a], a == 0 ? "1" : "0");
            comesTo("not not", "not not " + numbers[a], a == 0 ? "0" : "1");
            for (int b = 0; b < numbers.length; b++) {
                comesTo("and", numbers[a] + " and " + numbers[b], a != 0 && b != 0 ? "1" : "0");
                comesTo("or", numbers[a] + " or " + numbers[b], a != 0 || b != 0 ? "1" : "0");
            }
        }
        comesTo("and holds more than or", "1 or 0 and 0", "1");
        comesTo("and holds more than or", "0 and 0 or 1", "1");
        comesTo("not holds more than and", "not 0 and 0", "0");
        comesTo("not holds less than a relation", "not 1=2", "1");
        comesTo("not holds less than +", "not 0+1", "0");
        comesTo("1 or 0 to reckon with", "(1<2)+(3 and 4)+(0 or 5)+(not 0)", "4");
    }

    /** How many of ten WORDS, every second one loud, are lost. */
    private static int lostOf(String hills, String lost) {
        CliffJudges x = DUE.hills("word a loud 9;word b;" + hills + "back long;lost " + lost + ";");
        Due.say(x, 0, 0, 1, 0, 1, 0, 1, 0, 1, 0, 1);
        return 10 - x.echo(0, 0);
    }

    /** far 0 .. 99, blows 0 .. 9, snow 0 .. 9, long up to 10, loud 0 .. 18, behind 0 .. 9. */
    private static void factsAtTheirLimits() {
        String near = "cliff x at 50;man m at 50;";
        String far = "cliff x at 99 snow 9;man m at 0 voice 9;wind 9;";
        String other = "cliff x at 0 snow 9;man m at 99 voice 9;wind 9;";
        DUE.same("far 0", lostOf(near, "far=0"), 10);
        DUE.same("far 99", lostOf(far, "far=99"), 10);
        DUE.same("far 99, the other way", lostOf(other, "far=99"), 10);
        DUE.same("blows 0", lostOf(near, "blows=0"), 10);
        DUE.same("blows 9", lostOf(far, "blows=9"), 10);
        DUE.same("snow 0", lostOf(near, "snow=0"), 10);
        DUE.same("snow 9", lostOf(far, "snow=9"), 10);
        DUE.same("long 10", lostOf(near, "long=10"), 10);
        DUE.same("loud 0", lostOf(near, "loud=0"), 5);
        DUE.same("loud 9", lostOf(near, "loud=9"), 5);
        DUE.same("loud 9 by the voice alone", lostOf(far, "loud=9"), 5);
        DUE.same("loud 18", lostOf(far, "loud=18"), 5);
        DUE.same("behind 0", lostOf(near, "behind=0"), 1);
        DUE.same("behind 9", lostOf(near, "behind=9"), 1);
        DUE.same("behind 0 .. 9", lostOf(near, "behind<10 and behind>0-1"), 10);
        DUE.same("chance 0", lostOf(near, "chance=0"), 10);
    }

    /** "what is not told there is 0": loud, behind, chance in back and turn. */
    private static void whatIsNotToldThere() {
        for (String fact : new String[] {"loud", "behind", "chance"}) {
            CliffJudges x = DUE.hills("word a loud 9;word b loud 9;cliff x at 9;man m at 0 voice 9;back 1+" + fact + ";");
            Due.say(x, 0, 0, 1, 0);
            DUE.same(fact + " in back", x.echo(0, 0), 1);
            DUE.same(fact + " in back, for SOUNDS", x.sound(0, 10, 1) + x.stood(0, 0), 100);
            CliffJudges turned = DUE.hills("word a loud 9;word b loud 9;cliff x at 9;man m at 0 voice 9;turn " + fact + ";state s;state t yes;on s a to t;on t b to s;");
            Due.say(turned, 0, 0, 1);
            DUE.same(fact + " in turn", turned.echo(0, 0), 2);
            DUE.lie(fact + " in turn", turned, 0, 1);
            DUE.same(fact + " in turn, by LUCK", turned.luck(0), 0);
        }
        CliffJudges x = DUE.hills("word a;cliff x at 9;man m at 0;state s yes;back chance;");
        x.say(0, 0);
        DUE.same("chance in back is 0 by LUCK too", x.luck(0), 0);
        // A WORD's facts must not stay there for the back and turn of the next call.
        CliffJudges again = DUE.hills("word a loud 9;word b loud 9;cliff x at 1;man m at 0 voice 9;state s yes;back 2-loud-behind-chance;"
            + "lost loud+behind+chance=0;turn loud+behind+chance;");
        Due.say(again, 0, 0, 0, 1);
        for (int i = 0; i < 3; i++) {
            DUE.same("each call's own facts", again.echo(0, 0), 2);
            DUE.lie("each call's own facts", again, 0, 1);
            DUE.same("each chance's own facts", again.luck(0), 100);
        }
    }

    private static int came(String back, int words) {
        CliffJudges x = DUE.hills("word a;cliff x at 5;man m at 7;" + back);
        for (int i = 0; i < words; i++) {
            x.say(0, 0);
        }
        return x.echo(0, 0);
    }

    /** "so many of its last WORDS as comes of back (3, if it is not told; 0 at least, all at most)". */
    private static void howManyComeBack() {
        for (int words = 0; words <= 10; words++) {
            DUE.same("3, if it is not told, of " + words, came("", words), Math.min(3, words));
            DUE.same("0 at least", came("back 0-1;", words), 0);
            DUE.same("0", came("back 0;", words), 0);
            DUE.same("the least", came("back " + LEAST + ";", words), 0);
            DUE.same("one less than all", came("back long-1;", words), Math.max(0, words - 1));
            DUE.same("all", came("back long;", words), words);
            DUE.same("one more than all", came("back long+1;", words), words);
            DUE.same("the most", came("back " + MOST + ";", words), words);
            DUE.same("9999", came("back 9999;", words), words);
            DUE.same("10", came("back 10;", words), words);
        }
        CliffJudges x = DUE.hills("word a;word b;word c;word d;cliff x at 5;man m at 7;back 2;");
        Due.say(x, 0, 0, 1, 2, 3);
        DUE.same("its last ones", x.echo(0, 0), 2);
        DUE.lie("its last ones", x, 2, 3);
    }

    private static int row(String hills, int... words) {
        CliffJudges x = DUE.hills("word a;word b loud 1;word c loud 2;cliff x at 5;man m at 7;" + hills);
        Due.say(x, 0, words);
        int came = x.echo(0, 0);
        int row = 0;
        for (int i = 0; i < came; i++) {
            row = row * 10 + x.lies(i) + 1;
        }
        return row;
    }

    /** "each is gone for which what comes of lost is not 0 (none, if it is not told)". */
    private static void whatIsLost() {
        DUE.same("none, if it is not told", row("back long;", 0, 1, 2), 123);
        DUE.same("0", row("back long;lost 0;", 0, 1, 2), 123);
        DUE.same("1", row("back long;lost 1;", 0, 1, 2), 0);
        DUE.same("below 0 is not 0", row("back long;lost 0-1;", 0, 1, 2), 0);
        DUE.same("the least is not 0", row("back long;lost " + LEAST + ";", 0, 1, 2), 0);
        DUE.same("above 1 is not 0", row("back long;lost 256;", 0, 1, 2), 0);
        DUE.same("just those", row("back long;lost loud-1;", 0, 1, 2), 2);
        DUE.same("those that don't come anyway count behind too", row("back 2;lost behind=1;", 0, 1, 2), 3);
        DUE.same("what is lost is not made up for", row("back 2;lost behind=0;", 0, 1, 2), 2);
        DUE.same("the first of ten", row("back long;lost behind<9;", 1, 0, 0, 0, 0, 0, 0, 0, 0, 0), 2);
        DUE.same("the last of ten", row("back long;lost behind;", 0, 0, 0, 0, 0, 0, 0, 0, 0, 1), 2);
    }

    /** "come the other way about, if what comes of turn is not 0 (not, if it is not told)". */
    private static void whatIsTurned() {
        DUE.same("not, if it is not told", row("", 0, 1, 2), 123);
        DUE.same("0", row("turn 0;", 0, 1, 2), 123);
        DUE.same("1", row("turn 1;", 0, 1, 2), 321);
        DUE.same("below 0 is not 0", row("turn 0-1;", 0, 1, 2), 321);
        DUE.same("the least is not 0", row("turn " + LEAST + ";", 0, 1, 2), 321);
        DUE.same("above 1 is not 0", row("turn 256;", 0, 1, 2), 321);
        DUE.same("the last ones of more", row("turn 1;", 2, 2, 0, 1, 2), 321);
        DUE.same("those that are left", row("back long;turn 1;lost loud=1;", 0, 1, 2), 31);
        DUE.same("one", row("turn 1;", 1), 2);
        DUE.same("none", row("turn 1;"), 0);
        DUE.same("none is left", row("turn 1;lost 1;", 0, 1, 2), 0);
        DUE.same("by how long the CRY is", row("back 2;turn long=3;", 0, 1, 2), 32);
        DUE.same("by how long the CRY is", row("back 2;turn long=2;", 0, 1, 2), 23);
    }

    /** The longest and deepest e that can be are read and reckoned whole. */
    private static void dearestFormulas() {
        comesTo("28 that are added", ones(28), "28");
        CliffJudges nots = DUE.hills("word a;cliff x at 1;man m at 1;back " + ("not ".repeat(7) + "0 and ").repeat(29) + "not ".repeat(7) + "0;");
        nots.say(0, 0);
        DUE.same("210 times not", nots.echo(0, 0), 1);
        CliffJudges last = DUE.hills("word a;cliff x at 1;man m at 1;back " + ("not ".repeat(7) + "0 and ").repeat(29) + "not ".repeat(6) + "0;");
        last.say(0, 0);
        DUE.same("the last of them counts", last.echo(0, 0), 0);
        comesTo("the deepest", "1+(1+(1+(1+(1+(1+1)))))", "7");
        comesTo("waiting at each depth", "0 or 1 and 0<1+1*(0 or 1 and 0<1+1*(0 or 1 and 0<1+1*(0 or 1 and 0<1+1*1)))", "1");
    }
}
