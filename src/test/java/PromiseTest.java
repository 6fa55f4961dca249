/** The promises 1 to 39, one method each, with answers worked out by hand from the document. */
public final class PromiseTest {
    private static final Due DUE = new Due();

    // Plain hills: no formulas, so the last 3 WORDS come back as they were said from every CLIFF.
    // STATES: s -a-> t (yes), t -b-> s, s -b-> u, u -c-> t; else one stays.
    private static final String PLAIN = "word a;word b loud 4;word c loud 9;cliff x at 10 snow 2;cliff y at 20;man m at 13 voice 3;"
        + "man o at 15;man p at 99 voice 9;state s;state t yes;state u;on s a to t;on t b to s;on s b to u;on u c to t;wind 4;draw 5;";

    public static void main(String[] args) {
        texts();
        faults();
        limitsOfTexts();
        limitsOfFormulas();
        facts();
        acts();
        undone();
        echoes();
        formulas();
        pardons();
        ahead();
        searches();
        rhymes();
        joinedCalls();
        luckAndWinds();
        ways();
        sounds();
        questions();
        images();
        aboutAll();
        DUE.close();
    }

    private static void same(String what, long got, long want) {
        DUE.same(what, got, want);
    }

    private static CliffJudges hills(String text) {
        return DUE.hills(text);
    }

    private static void say(CliffJudges x, int cry, int... words) {
        Due.say(x, cry, words);
    }

    private static void lie(String what, CliffJudges x, int... due) {
        DUE.lie(what, x, due);
    }

    private static String many(int n, String line) {
        return Due.many(n, line);
    }

    /** Promises 1 to 4: a new object, feed, end, hills. */
    private static void texts() {
        CliffJudges x = new CliffJudges();
        for (int what = 0; what <= 16; what++) {
            same("1: about " + what, x.about(what), 0);
        }
        same("1: stood", x.stood(0, 0), 100);
        same("1: way", x.way(0), -1);
        same("1: call", x.call(0), -1);
        same("2: feed", x.feed(0x77696e64, 0x20373b20, 0x20202020, 0x20202020, 0x0a0a0a0a), 20);
        same("2: about 14", x.about(14), 20);
        same("4: hills", x.hills(), 0);
        same("4: the highest byte first", x.about(5), 7);
        same("4: the tape is empty", x.about(14), 0);
        for (int i = 1; i <= 80; i++) {
            same("2: feed " + i, x.feed(-1, 0, 0, 0, i), 20 * i);
        }
        same("2: feed 81", x.feed(0, 0, 0, 0, 0), -1);
        same("2: nothing came", x.about(14), 1600);
        same("3: end 1601", x.end(1601), -1);
        same("3: end -1", x.end(-1), -1);
        same("3: end 1600", x.end(1600), 1600);
        same("3: end 1581", x.end(1581), 1581);
        same("2: feed above", x.feed(0, 0, 0, 0, 0), -1);
        same("3: end 1580", x.end(1580), 1580);
        same("2: feed up to 1600", x.feed(0, 0, 0, 0, 0), 1600);
        same("3: end least", x.end(Integer.MIN_VALUE), -1);
        same("3: end 0", x.end(0), 0);
        same("3: end 1", x.end(1), -1);
        same("4: empty text", x.hills(), 0);
        same("4: all is as told in it", x.about(5), 0);
        longestText();
        cutTexts();
        anew();
    }

    private static void longestText() {
        CliffJudges x = new CliffJudges();
        same("4: 1600 bytes", Due.tell(x, " ".repeat(1583) + "cliff x at 98;  \n"), 1);
        same("4: place", x.cliff(0, 0), 98);
        same("4: blanks only", Due.tell(x, "\n \n "), 0);
    }

    /** What was cut off with end() is not looked at, though it was fed. */
    private static void cutTexts() {
        String[] whole = {"wind 7;a", "wind 7a;", "wind 77;", "word ab;word a;", "word a;wind 3;"};
        int[] cut = {6, 6, 6, 6, 7};
        for (int i = 0; i < whole.length; i++) {
            CliffJudges x = new CliffJudges();
            Due.feed(x, whole[i]);
            x.end(cut[i]);
            boolean good = i == whole.length - 1;
            same("3: hills of " + whole[i] + " cut at " + cut[i], x.hills(), good ? 0 : -1);
            same("3: fault of " + whole[i] + " cut at " + cut[i], x.fault(0), good ? 0 : 2);
            same("3: its place in " + whole[i] + " cut at " + cut[i], x.fault(1), good ? -1 : cut[i]);
        }
    }

    private static void anew() {
        CliffJudges x = hills(PLAIN);
        say(x, 0, 0, 1);
        say(x, 1, 2);
        x.noon();
        x.call(0);
        x.undo();
        x.sound(0, 3, 3);
        x.later(5);
        x.image(1);
        x.echo(0, 0);
        same("4: a fault", Due.tell(x, "wind 3"), -1);
        same("4: the tape is empty behind a fault", x.about(14), 0);
        int[] stays = {2, 3, 3, 3, 4, 6, 756, 1, 2, 1, 4, 1, 1, 5, 0, 0, 2};
        for (int what = 0; what < stays.length; what++) {
            same("4: stays, about " + what, x.about(what), stays[what]);
        }
        same("4: hills again", Due.tell(x, PLAIN), 2);
        int[] fresh = {2, 3, 3, 3, 4, 4, 5, 0, 0, 0, 0, 0, 0, 5, 0, 0, 0};
        for (int what = 0; what < fresh.length; what++) {
            same("4: as told, about " + what, x.about(what), fresh[what]);
        }
        same("4: boxes are empty", x.back(1), -1);
        same("4: no redo", x.redo() ? 1 : 0, 0);
        same("4: snow as told", x.cliff(0, 1), 2);
        same("4: no verdicts", x.man(0, 2) + x.man(0, 3) + x.man(0, 4), 0);
    }

    private static void fault(String text, int code, int place) {
        CliffJudges x = new CliffJudges();
        int got = Due.tell(x, text);
        same("5: hills of " + text, got == -1 ? -1 : 0, code == 0 ? 0 : -1);
        same("5: fault of " + text, x.fault(0), code);
        same("5: its place in " + text, x.fault(1), place);
        same("5: fault 2", x.fault(2), -1);
        same("5: fault -1", x.fault(-1), -1);
        same("5: of the latest hills()", x.hills() + x.fault(0) + x.fault(1), -1);
    }

    /** Promise 5: fault. */
    private static void faults() {
        fault("", 0, -1);
        fault("#", 1, 0);
        fault("  Word a;", 1, 2);
        fault("word a;\t", 1, 7);
        fault("word abcdefgh;", 0, -1);
        fault("word abcdefghi;", 1, 5);
        fault("wind 0007;", 0, -1);
        fault("wind 00007;", 1, 5);
        fault("wind 7a;", 1, 5);
        fault("wind7;", 0, -1);
        fault("word a loud7;cliff b at8snow 3;", 1, 23);
        fault("word a loud7;cliff b at8 snow3;", 0, -1);
        fault("wordy;", 2, 0);
        fault("word;", 2, 4);
        fault("word 7;", 2, 5);
        fault("word a", 2, 6);
        fault("word a  \n ", 2, 10);
        fault("word a;;", 2, 7);
        fault("word loud;", 2, 5);
        fault("word chance;", 2, 5);
        fault("word a loud;", 2, 11);
        fault("word a loud 9;", 0, -1);
        fault("word a loud 10;", 4, 12);
        fault("word e;cliff e at 0;man e at 0;state e;", 0, -1);
        fault("word e;word f;word e;", 3, 19);
        fault("cliff e at 99;cliff e", 3, 20);
        fault("man e at 0 voice 9;man e", 3, 23);
        fault("state e yes;state e", 3, 18);
        fault("cliff e 9;", 2, 8);
        fault("cliff e at 9 voice 1;", 2, 13);
        fault("man e at 9 snow 1;", 2, 11);
        fault("man e at 100;", 4, 9);
        fault("man e at 1 voice 10;", 4, 17);
        fault("cliff e at 1 snow 9;", 0, -1);
        fault("state e yes yes;", 2, 12);
        fault("draw 999;wind 9;", 0, -1);
        fault("draw 1000;", 4, 5);
        fault("draw 1;draw 2;", 2, 7);
        fault("wind 1;wind 2;", 2, 7);
        fault("on e a to e;", 5, 3);
        fault("state e;on e a to e;word a;", 5, 13);
        fault("word a;on a a to a;", 5, 10);
        fault("word a;state e;on e a to f;state f;", 5, 25);
        fault("word a;state e;on e a e;", 2, 22);
        fault("word a;state e;on on a to e;", 2, 18);
        fault("word a;state e;on e a to e;on e a to e;", 3, 32);
        fault("back ;", 2, 5);
        fault("back 1;back 1;", 2, 7);
        fault("lost 1;lost", 2, 7);
        fault("turn 1;turn", 2, 7);
        fault("back 1=1=1;", 2, 8);
        fault("back 1+not 1;", 2, 7);
        fault("back (1;", 2, 7);
        fault("back 1);", 2, 6);
        fault("back -1;", 2, 5);
        fault("back 1 1;", 2, 7);
        fault("back 10000;", 1, 5);
        fault("back 9999;", 0, -1);
        fault("back far blows;", 2, 9);
        fault("back wind;", 2, 5);
        fault("back 1 or;", 2, 9);
        fault("back 1&1;", 1, 6);
        fault("back not not 1=1 and(far+2)*3>long or chance%loud/behind-snow<blows;", 0, -1);
    }

    private static void limitsOfTexts() {
        fault(many(8, "word #;"), 0, -1);
        fault(many(9, "word #;"), 2, 56);
        fault(many(4, "cliff # at 1;"), 0, -1);
        fault(many(5, "cliff # at 1;"), 2, 52);
        fault(many(4, "man # at 1;"), 0, -1);
        fault(many(5, "man # at 1;"), 2, 44);
        fault(many(6, "state #;"), 0, -1);
        fault(many(7, "state #;"), 2, 48);
        String ahead = many(8, "word #;") + many(4, "state #;");
        String ons = many(8, "on a # to b;") + many(8, "on b # to c;") + many(8, "on c # to d;");
        String thirty = ahead + ons + many(6, "on d # to a;");
        fault(thirty, 0, -1);
        fault(thirty + "on", 2, thirty.length());
        same("4: 30 lines of on", hills(thirty).about(4), 30);
    }

    private static void limitsOfFormulas() {
        String thirty = "1" + "+1".repeat(29);
        fault("back " + thirty + ";", 0, -1);
        fault("back " + thirty + "+far;", 2, 65);
        fault("back " + thirty + "+(1);", 2, 65);
        fault("back (" + thirty + ");", 2, 64);
        fault("back " + thirty + " and not 1;", 2, 73);
        fault("back " + thirty + "+;", 2, 65);
        fault("back " + thirty + ";lost " + thirty + ";", 0, -1);
        fault("back " + thirty + ";lost " + thirty + ";turn 1;", 2, 135);
        fault("back " + thirty + ";lost 1" + "+1".repeat(28) + ";turn 1+1;", 2, 135);
        fault("back (((((((1)))))));", 0, -1);
        fault("back ((((((((1))))))));", 2, 12);
        fault("back " + "not ".repeat(7) + "1;", 0, -1);
        fault("back " + "not ".repeat(8) + "1;", 2, 33);
        fault("back not(not(not(not 1)));", 0, -1);
        fault("back not(not(not(not(1))));", 2, 20);
        fault("back (((not (((not 1))))));", 2, 15);
        fault("back (((((((1)))))))+(((((((1)))))));", 0, -1);
        fault("back (((((((1+not 1)))))));", 2, 14);
        fault("back (((((((1 and not 1)))))));", 2, 18);
        same("39: ( e ) is a unit too", hills("back ((1)+far)*2;lost 3;").about(15), 6);
    }

    /** Promises 6 to 8, and 11: cliff, man, leads, said. */
    private static void facts() {
        CliffJudges x = hills(PLAIN);
        same("6: place", x.cliff(1, 0), 20);
        same("6: snow", x.cliff(0, 1), 2);
        same("6: snow not told", x.cliff(1, 1), 0);
        same("6: no such cliff", x.cliff(2, 0), -1);
        same("6: no such cliff", x.cliff(-1, 0), -1);
        same("6: another what", x.cliff(0, 2), -1);
        same("6: another what", x.cliff(0, -1), -1);
        same("7: place", x.man(2, 0), 99);
        same("7: voice", x.man(2, 1), 9);
        same("7: voice not told", x.man(1, 1), 0);
        same("7: no such man", x.man(3, 0), -1);
        same("7: no such man", x.man(-1, 0), -1);
        same("7: another what", x.man(0, 5), -1);
        same("7: another what", x.man(0, -1), -1);
        same("8: s a", x.leads(0, 0), 1);
        same("8: u c", x.leads(2, 2), 1);
        same("8: one stays", x.leads(2, 0), 2);
        same("8: no such state", x.leads(3, 0), -1);
        same("8: no such word", x.leads(0, 3), -1);
        same("8: below", x.leads(-1, 0) + x.leads(0, -1), -2);
        say(x, 1, 2, 0);
        same("11: first", x.said(1, 0), 2);
        same("11: second", x.said(1, 1), 0);
        same("11: none such", x.said(1, 2), -1);
        same("11: below", x.said(1, -1), -1);
        same("11: the other cry", x.said(0, 0), -1);
        same("11: no cry", x.said(2, 0) + x.said(-1, 0), -2);
    }

    /** Promises 9, 10, 12 to 14: say, unsay, call, noon, sweep. */
    private static void acts() {
        CliffJudges x = hills(PLAIN);
        same("12: nothing was said", x.call(0), 0);
        same("12: none is counted", x.man(0, 4), 1);
        for (int i = 1; i <= 10; i++) {
            same("9: say " + i, x.say(0, 1), i);
        }
        same("9: 10 words", x.say(0, 1), -1);
        same("9: the other cry", x.say(1, 2), 1);
        same("9: no cry", x.say(2, 0), -1);
        same("9: no cry", x.say(-1, 0), -1);
        same("9: no word", x.say(1, 3), -1);
        same("9: no word", x.say(1, -1), -1);
        same("10: unsay", x.unsay(1), 2);
        same("10: none", x.unsay(1), -1);
        same("10: no cry", x.unsay(2) + x.unsay(-1), -2);
        same("9: acts", x.about(10), 13);
        same("12: b b b: u", x.call(0), 1);
        same("12: not is counted", x.man(0, 3), 1);
        x.unsay(0);
        same("12: b b c: t", (long) x.say(0, 2) * x.call(0), 20);
        same("12: yes is counted", x.man(0, 2), 1);
        same("12: by man", x.man(1, 2), 0);
        same("12: another man", x.call(2), 2);
        same("12: his own", x.man(2, 2) * 10 + x.man(0, 2), 11);
        same("12: no man", x.call(3) + x.call(-1), -2);
        same("13: 5 * 137 + 71 = 756", x.noon(), 6);
        same("13: 75 is odd", x.cliff(0, 1), 2);
        same("13: 756 * 137 + 71 = 103643", x.noon(), 3);
        same("13: 64 is even", x.cliff(0, 1), 3);
        same("13: on all", x.cliff(1, 1), 1);
        same("13: noons", x.about(7), 2);
        same("14: sweep", x.sweep(0), 3);
        same("14: no snow", x.cliff(0, 1), 0);
        same("14: again", x.sweep(0), 0);
        same("14: the other", x.cliff(1, 1), 1);
        same("14: sweep it too", x.sweep(1), 1);
        same("14: no cliff", x.sweep(2) + x.sweep(-1), -2);
        snowIsNineAtMost();
    }

    private static void snowIsNineAtMost() {
        // 0 -> 71 -> 798 -> 397: 7, 79, 39 are odd; 397 -> 460: 46 is even.
        CliffJudges x = hills("cliff a at 1 snow 9;cliff b at 1 snow 8;");
        int[] winds = {1, 8, 7, 0};
        for (int wind : winds) {
            same("13: wind", x.noon(), wind);
        }
        same("13: 9 at most", x.cliff(0, 1), 9);
        same("13: one more", x.cliff(1, 1), 9);
    }

    /** Promises 15, 16: undo, redo. */
    private static void undone() {
        CliffJudges x = hills(PLAIN);
        DUE.no("15: none", x.undo());
        DUE.no("16: none", x.redo());
        say(x, 0, 0, 2);
        x.call(0);
        x.noon();
        x.noon();
        x.sweep(0);
        x.unsay(0);
        same("39: acts", x.about(10), 7);
        DUE.yes("15: unsay", x.undo());
        same("15: unsay is undone", x.said(0, 1), 2);
        DUE.yes("15: sweep", x.undo());
        same("15: sweep is undone", x.cliff(0, 1), 3);
        DUE.yes("15: noon", x.undo());
        same("15: snow", x.cliff(0, 1), 2);
        same("15: seed", x.about(6), 756);
        same("15: wind", x.about(5), 6);
        same("15: noons", x.about(7), 1);
        DUE.yes("15: noon", x.undo());
        same("15: wind as told", x.about(5), 4);
        same("15: verdict", x.man(0, 2), 1);
        DUE.yes("15: call", x.undo());
        same("15: verdict is undone", x.man(0, 2), 0);
        same("39: undo", x.about(10), 2);
        same("39: redo", x.about(11), 5);
        DUE.yes("16: call", x.redo());
        same("16: verdict", x.man(0, 2), 1);
        same("16: doing nothing keeps them", x.say(0, 9), -1);
        DUE.yes("16: noon", x.redo());
        same("16: seed", x.about(6), 756);
        same("9: another act", x.say(0, 1), 3);
        DUE.no("16: none behind another act", x.redo());
        same("39: redo", x.about(11), 0);
        same("39: undo", x.about(10), 5);
        fortyAreKept();
    }

    private static void fortyAreKept() {
        CliffJudges x = hills(PLAIN);
        for (int i = 0; i < 45; i++) {
            x.noon();
        }
        same("39: 40 are kept", x.about(10), 40);
        int undone = 0;
        for (int i = 0; i < 50; i++) {
            undone += x.undo() ? 1 : 0;
        }
        same("15: 40 at most", undone, 40);
        same("15: the oldest went", x.about(7), 5);
        int redone = 0;
        for (int i = 0; i < 50; i++) {
            redone += x.redo() ? 1 : 0;
        }
        same("16: all of them", redone, 40);
        same("16: noons", x.about(7), 45);
    }

    /** Promises 17 to 19: echo, answers, binds (the verdict with them). */
    private static void echoes() {
        CliffJudges x = hills(PLAIN);
        same("17: nothing said", x.echo(0, 0), 0);
        lie("17", x);
        say(x, 0, 0, 1, 2, 0);
        same("17: 3 without back", x.echo(0, 0), 3);
        lie("17", x, 1, 2, 0);
        same("31: below", x.lies(-1), -1);
        same("18: both", x.answers(0, 0), 3);
        same("18: b c a ends in t", x.answers(0, 1), 3);
        same("18: another what", x.answers(0, 2) + x.answers(0, -1), -2);
        same("18: no man", x.answers(3, 0) + x.answers(-1, 0), -2);
        same("19: 3 and 7 far", x.binds(0), 0);
        same("19: 5 and 5 far", x.binds(1), 0);
        same("19: 89 and 79 far", x.binds(2), 1);
        same("19: no man", x.binds(3) + x.binds(-1), -2);
        same("17: no man", x.echo(3, 0), -1);
        lie("17: behind NONE", x);
        x.echo(0, 1);
        same("17: no cliff", x.echo(0, 2), -1);
        lie("17: behind NONE", x);
        CliffJudges empty = hills("word a;cliff x at 1;cliff y at 50;man m at 1;state s yes;back far<5;");
        same("19: none answers", empty.binds(0), -1);
        same("12: none", empty.call(0), 0);
        same("18: none answers", empty.answers(0, 0), 0);
        same("18: the empty row ends in STATE 0", empty.answers(0, 1), 3);
        empty.say(0, 0);
        same("18: one answers", empty.answers(0, 0), 1);
        CliffJudges noLaw = hills("word a;cliff x at 1;man m at 1;");
        noLaw.say(0, 0);
        same("12: never without states", noLaw.call(0), 1);
    }

    private static int came(String back) {
        CliffJudges x = hills("word a loud 7;cliff x at 12 snow 3;man m at 7 voice 2;wind 6;back " + back + ";");
        say(x, 0, 0, 0, 0, 0, 0, 0, 0, 0, 0);
        return x.echo(0, 0);
    }

    private static int kept(String lost) {
        CliffJudges x = hills("word a loud 7;word b;cliff x at 12 snow 3;man m at 7 voice 2;wind 6;back long;lost " + lost + ";");
        say(x, 0, 0, 1, 0, 1);
        int bits = 0;
        int came = x.echo(0, 0);
        for (int i = 0; i < came; i++) {
            bits = bits * 10 + x.lies(i) + 1;
        }
        return bits;
    }

    private static void formulas() {
        same("far", came("far"), 5);
        same("blows", came("blows"), 6);
        same("snow", came("snow"), 3);
        same("long", came("long"), 9);
        same("loud, behind, chance are 0 in back", came("1+loud+behind+chance"), 1);
        same("0 at least", came("1-7"), 0);
        same("all at most", came("99"), 9);
        same("minus goes from the left", came("9-3-2"), 4);
        same("times ahead of plus", came("1+2*3"), 7);
        same("over goes from the left", came("8/4*2"), 4);
        same("cut", came("7+(0-7)/2"), 4);
        same("rest", came("7+(0-7)%4"), 4);
        same("by 0", came("4+5/0+5%0"), 4);
        same("relations", came("(1<2)+(2<1)+(2>1)+(1=1)+(1=2)"), 3);
        same("and", came("2*(5 and 7)+(1 and 0)"), 2);
        same("or", came("2*(5 or 0)+(0 or 0)"), 2);
        same("and ahead of or", came("1 or 1 and 0"), 1);
        same("not ahead of and", came("not 1 and 0"), 0);
        same("not behind a relation", came("not 3<2"), 1);
        same("not not", came("not not 5"), 1);
        same("sums ahead of relations", came("1+1=2"), 1);
        same("wrapping below 0", came("9999*9999*22"), 0);
        same("wrapping to the least", came("0-1+(0-8192*8192*32=8192*8192*32)*3"), 2);
        same("the least over -1", came("4+((8192*8192*32)/(0-1)<0)"), 5);
        String waiting = "0 or 1 and 0<1+1*";
        same("25 wait at once", came((waiting + "(").repeat(4) + waiting + "1))))"), 1);
        same("all are lost", kept("1"), 0);
        same("none is lost", kept("0"), 1212);
        same("loud: of the word and the voice", kept("loud=9"), 22);
        same("loud: of the voice alone", kept("loud=2"), 11);
        same("behind", kept("behind=2 or behind=0"), 11);
        same("far, blows, snow, long", kept("far=5 and blows=6 and snow=3 and long=4 and behind=3"), 212);
        same("chance is 0", kept("chance=0 and behind=0"), 121);
        turned();
    }

    private static void turned() {
        CliffJudges x = hills("word a;word b;word c loud 1;cliff x at 0;cliff y at 9;man m at 0;lost loud;turn far>3 and loud+behind+chance=0;");
        say(x, 0, 0, 1, 2, 0);
        same("turn: not", x.echo(0, 0), 2);
        lie("turn: not", x, 1, 0);
        same("turn", x.echo(0, 1), 2);
        lie("turn", x, 0, 1);
        CliffJudges late = hills("word a;word b;cliff x at 0;man m at 0;back 2;lost behind=0;");
        say(late, 0, 0, 1, 0);
        same("lost ones are of those that came", late.echo(0, 0), 1);
        lie("lost", late, 1);
    }

    /** Promises 20, 21: pardon, pardons. */
    private static void pardons() {
        CliffJudges x = hills(PLAIN);
        same("20: a", x.pardon(0), 1);
        lie("20", x, 0);
        same("21: of 1: a", x.pardons(0, 1), 1);
        // Of 2: aa, ac (t), bc (u, t), ca (t).
        same("21: of 2", x.pardons(0, 2), 4);
        same("21: n 0, 6", x.pardons(0, 0) + x.pardons(0, 6), -2);
        same("21: no man", x.pardons(3, 1) + x.pardons(-1, 1), -2);
        same("20: no man", x.pardon(3), -1);
        lie("20: behind NONE", x);
        CliffJudges none = hills("word a;man m at 1;state s yes;");
        same("20: no cliffs", none.pardon(0), -1);
        same("21: no cliffs", none.pardons(0, 1), -1);
        // Of 2 WORDS near cliffs send both, far ones the last alone: ab is good for x, b for y.
        CliffJudges both = hills("word a;word b;cliff x at 1;cliff y at 50;man m at 1;state s;state t;state u yes;"
            + "on s a to t;on s b to u;on t b to u;on u a to s;back 1+(far<5);");
        same("20: b", both.pardon(0), 1);
        lie("20", both, 1);
        same("21: ab, bb", both.pardons(0, 2), 2);
        CliffJudges five = hills("word a;cliff x at 1;man m at 1;state s yes;back long>4;");
        same("20: all must answer", five.pardon(0), 5);
        lie("20", five, 0, 0, 0, 0, 0);
        same("21: none", five.pardons(0, 4), 0);
        CliffJudges six = hills("word a;cliff x at 1;man m at 1;state s yes;back long>5;");
        same("20: 5 at most", six.pardon(0), -1);
        CliffJudges silent = hills("cliff x at 1;man m at 1;state s yes;");
        same("20: no words", silent.pardon(0), -1);
        same("21: no words", silent.pardons(0, 3), 0);
        // Turned about, the CRY must begin with b from y, and end with it from x.
        CliffJudges turned = hills("word a;word b;cliff x at 1;cliff y at 50;man m at 1;state s;state t yes;on s b to t;"
            + "on t a to s;back long;turn far>5;");
        same("21: bab, bbb", turned.pardons(0, 3), 2);
        same("20: b", turned.pardon(0), 1);
    }

    /** Promise 22: ahead. */
    private static void ahead() {
        CliffJudges x = hills(PLAIN);
        say(x, 1, 0, 1, 2);
        same("22: just so", x.ahead(0, 0, 3), 1);
        lie("22", x, 0, 1, 2);
        same("22: one more ahead of it", x.ahead(0, 0, 4), 3);
        lie("22: the first", x, 0, 0, 1, 2);
        same("22: two more", x.ahead(0, 1, 5), 9);
        lie("22: the first", x, 0, 0, 0, 1, 2);
        same("22: too short", x.ahead(0, 0, 2), 0);
        lie("22: behind 0", x);
        x.ahead(0, 0, 3);
        same("22: n 6", x.ahead(0, 0, 6), -1);
        lie("22: behind NONE", x);
        same("22: n 0", x.ahead(0, 0, 0), -1);
        same("22: no man", x.ahead(3, 0, 3) + x.ahead(-1, 0, 3), -2);
        same("22: no cliff", x.ahead(0, 2, 3) + x.ahead(0, -1, 3), -2);
        // Of 3 WORDS all come but loud ones, turned about: what came as ba was said as ab.
        CliffJudges lost = hills("word c loud 5;word a;word b;cliff x at 1;man m at 1;back long;lost loud;turn 1;");
        same("22: all lost", lost.ahead(0, 0, 2), 1);
        lie("22: nothing came", lost, 0, 0);
        say(lost, 1, 2, 1);
        same("22: cab, acb, abc", lost.ahead(0, 0, 3), 3);
        lie("22", lost, 0, 1, 2);
        say(lost, 1, 0);
        same("22: c never comes", lost.ahead(0, 0, 5), 0);
    }

    /** Promises 23, 24, 29: yeas, clears, more. */
    private static void searches() {
        CliffJudges x = hills("word a;word b loud 4;cliff x at 40 snow 2;cliff y at 60 snow 1;man m at 40 voice 1;man o at 51;state s;state t yes;"
            + "on s a to t;on t b to s;back 3-snow;lost loud<far/10;");
        say(x, 0, 0, 1);
        // x sends b, y both, or what is loud enough: nothing is a YES, a is lost too far off.
        same("23: none", x.yeas(0, 0), 0);
        same("23: no first", x.yeas(0, 1), -1);
        same("23: no last", x.yeas(0, 2), -1);
        x.unsay(0);
        // a alone: x (nearer up to 50) sends 1, y sends 1, if voice >= far / 10; else the other may.
        same("23: voice 0: 31 .. 49, 51 .. 69", x.yeas(0, 0), 38);
        same("23: first", x.yeas(0, 1), 31);
        same("23: last", x.yeas(0, 2), 69);
        same("23: voice 9", x.yeas(9, 0), 100);
        same("23: voice 10", x.yeas(10, 0), -1);
        same("23: voice -1", x.yeas(-1, 0), -1);
        same("23: another what", x.yeas(0, 3) + x.yeas(0, -1), -2);
        same("29: a a", x.more(0), 0b01);
        same("29: no man", x.more(2) + x.more(-1), -2);
        say(x, 0, 0, 0, 0, 0, 0, 0, 0, 0, 0);
        same("29: 10 words", x.more(0), 0);
        same("24: enough without", x.clears(0, 0), 0);
        same("24: none, as bits", x.clears(0, 1), 0);
        clears();
    }

    private static void clears() {
        // a b b: a comes from a CLIFF with no snow alone; x is nearer to m, y to o.
        CliffJudges x = hills("word a;word b;cliff x at 40 snow 2;cliff y at 60 snow 1;man m at 40;man o at 59;state s;state t yes;"
            + "on s a to t;back 3-snow;");
        say(x, 0, 0, 1, 1);
        same("24: one", x.clears(0, 0), 1);
        same("24: x", x.clears(0, 1), 1);
        same("24: one", x.clears(1, 0), 1);
        same("24: y", x.clears(1, 1), 2);
        same("24: another what", x.clears(0, 2) + x.clears(0, -1), -2);
        same("24: no man", x.clears(2, 0) + x.clears(-1, 1), -2);
        x.unsay(0);
        x.unsay(0);
        x.unsay(0);
        say(x, 0, 1);
        same("24: all are not enough", x.clears(0, 0), -1);
        same("24: nothing is done", x.cliff(0, 1), 2);
        // With no snow on x it answers and is not a YES: only without sweeping x there is one.
        CliffJudges less = hills("word a;word b;cliff x at 40 snow 1;cliff y at 60 snow 1;man m at 40;state s;state t yes;"
            + "on s a to t;on t b to s;back long*(snow=0);turn far;");
        say(less, 0, 0, 1);
        same("24: all would be too many", less.clears(0, 1), 2);
        // Only the farther one's ECHO can be a YES, and only if the nearer one says nothing.
        CliffJudges all = hills("word a;word b;cliff x at 40 snow 3;cliff y at 60 snow 4;man m at 40;state s;state t yes;"
            + "on s a to t;back snow+far*(1-snow);");
        say(all, 0, 0, 1, 1, 1, 1);
        same("24: both", all.clears(0, 0), 2);
        same("24: both, as bits", all.clears(0, 1), 3);
        CliffJudges none = hills("word a;man m at 1;state s yes;");
        same("24: no cliffs", none.clears(0, 0), -1);
    }

    /** Promise 25: rhyme. */
    private static void rhymes() {
        CliffJudges x = hills(PLAIN);
        same("25: nothing to change", x.rhyme(0), -1);
        say(x, 0, 0, 0);
        same("25: a YES already", x.rhyme(0), 0);
        lie("25", x);
        say(x, 0, 1);
        // a a b is s: b a b, c a b are s, a b b is u, a c b is s, a a a is t.
        same("25: one", x.rhyme(0), 1);
        lie("25: the last one is a", x, 20);
        same("25: no man", x.rhyme(3), -1);
        lie("25: behind NONE", x);
        // Three times a leads on, b leads nowhere: all three must be a.
        CliffJudges three = hills("word b;word a;word c;cliff x at 1;man m at 1;state s;state t;state u;state v yes;"
            + "on s a to t;on t a to u;on u a to v;back long;");
        say(three, 0, 0, 0);
        same("25: too few words", three.rhyme(0), -1);
        say(three, 0, 0, 0);
        same("25: three of four", three.rhyme(0), 3);
        lie("25: the first places", three, 1, 11, 21);
        say(three, 0, 1);
        same("25: two more", three.rhyme(0), 2);
        lie("25: two", three, 1, 11);
        CliffJudges four = hills("word b;word a;cliff x at 1;man m at 1;state s;state t;state u;state v;state w yes;"
            + "on s a to t;on t a to u;on u a to v;on v a to w;back long;");
        say(four, 0, 0, 0, 0, 0);
        same("25: 3 are not enough", four.rhyme(0), -1);
        // The nearer cliff must say nothing (a is lost there), or a YES.
        CliffJudges near = hills("word a loud 1;word b loud 9;cliff x at 1;cliff y at 9;man m at 1;state s;state t yes;on s a to t;"
            + "back 1;lost loud<2 and far=0;");
        say(near, 0, 1);
        same("25: y binds then", near.rhyme(0), 1);
        lie("25", near, 0);
    }

    /** Promise 26: joined. */
    private static void joinedCalls() {
        CliffJudges x = hills(PLAIN);
        same("26: nothing was said", x.joined(0, 1), 0);
        say(x, 0, 1);
        same("26: b", x.joined(0, 1), 1);
        say(x, 1, 2);
        same("26: b c", x.joined(0, 1), 2);
        same("26: the same one", x.joined(0, 0), -1);
        same("26: no man", x.joined(0, 3) + x.joined(3, 0) + x.joined(-1, 0) + x.joined(0, -1), -4);
        x.unsay(0);
        same("26: c alone", x.joined(0, 1), 1);
        // Only what is near comes back: m's from x, o's from y.
        CliffJudges apart = hills("word a;word b;cliff x at 0;cliff y at 90;man m at 1;man o at 89;state s;state t yes;on s b to t;back far<5;");
        say(apart, 0, 0);
        say(apart, 1, 1);
        same("26: x is nearest to m", apart.joined(0, 1), 1);
        same("26: o calls CRY 0: y is nearest to him", apart.joined(1, 0), 1);
        apart.unsay(0);
        same("26: b comes from y alone", apart.joined(0, 1), 2);
        // Each by his own voice, and by how long his own CRY is.
        CliffJudges own = hills("word a;word b;cliff x at 5;man m at 1 voice 2;man o at 9;state s;state t yes;on s b to t;back long;lost loud<long;");
        say(own, 0, 0, 1);
        say(own, 1, 1);
        same("26: m's come, o's is lost", own.joined(0, 1), 2);
        same("26: m's one comes", own.joined(1, 0), 2);
        own.unsay(0);
        own.unsay(0);
        same("26: o's is lost", own.joined(0, 1), 0);
    }

    /** Promises 27, 28: luck, winds. */
    private static void luckAndWinds() {
        CliffJudges x = hills("word a;cliff x at 5;man m at 1 voice 2;man o at 5;state s;state t yes;on s a to t;"
            + "back 1+chance;lost chance<25 or far<blows;wind 4;");
        same("27: nothing said", x.luck(0), 0);
        say(x, 0, 0);
        same("27: 25 .. 99", x.luck(0), 75);
        same("27: none", x.luck(1), 0);
        same("27: no man", x.luck(2) + x.luck(-1), -2);
        same("28: chance 0: none", x.winds(0), 0);
        CliffJudges w = hills("word a;cliff x at 5;man m at 1 voice 2;man o at 5;state s;state t yes;on s a to t;lost far<blows;wind 9;");
        say(w, 0, 0);
        same("28: 0 .. 4", w.winds(0), 0b11111);
        same("28: 0", w.winds(1), 1);
        same("28: no man", w.winds(2) + w.winds(-1), -2);
        same("28: nothing is done", w.about(5), 9);
        same("12: by the wind of now", w.call(0), 0);
    }

    /** Promises 30, 31: way, lies. */
    private static void ways() {
        CliffJudges x = hills(PLAIN);
        same("30: to s", x.way(0), 0);
        lie("30: to s", x);
        same("30: to t", x.way(1), 1);
        lie("30: to t", x, 0);
        same("30: to u", x.way(2), 1);
        lie("30: to u", x, 1);
        same("30: no state", x.way(3), -1);
        lie("30: behind NONE", x);
        same("30: no state", x.way(-1), -1);
        CliffJudges y = hills("word a;word b;state s;state t;state u;state v;state w;on s b to t;on s a to u;on t a to v;on u b to v;on v b to s;");
        same("30: ab ahead of ba", y.way(3), 2);
        lie("30: ab", y, 0, 1);
        same("30: none", y.way(4), -1);
        lie("30: none", y);
    }

    /** Promises 32 to 35: sound, untell, later, stood. */
    private static void sounds() {
        CliffJudges x = hills("word a;cliff x at 10 snow 1;cliff y at 60;back long-far/10-snow-blows;wind 1;");
        same("34: later", x.later(5), 5);
        same("32: first", x.sound(0, 5, 2), 0);
        // 5 - far / 10 - 1 - 1 = 2: far 10 .. 19, so 0 and 20 .. 29.
        same("35: how many", x.stood(0, 5), 11);
        same("35: first", x.stood(1, 5), 0);
        same("35: last", x.stood(2, 5), 29);
        same("35: before", x.stood(0, 4), 100);
        same("35: later", x.stood(0, Integer.MAX_VALUE), 11);
        same("35: long ago", x.stood(2, Integer.MIN_VALUE), 99);
        same("35: another what", x.stood(3, 5) + x.stood(-1, 5), -2);
        same("34: later", x.later(2), 7);
        // 10 - far / 10 - 1 = 6: far 30 .. 39, so 21 .. 30 and 90 .. 99.
        same("32: second", x.sound(1, 10, 6), 1);
        same("35: both", x.stood(0, 7), 9);
        same("35: from 21 on", x.stood(1, 7), 21);
        same("35: as known before", x.stood(0, 6), 11);
        same("34: later", x.later(3), 10);
        DUE.yes("33: untell", x.untell(0));
        DUE.no("33: again", x.untell(0));
        DUE.no("33: none such", x.untell(2) || x.untell(-1));
        same("35: the second alone", x.stood(0, 10), 20);
        same("35: as known ahead of that", x.stood(0, 9), 9);
        same("32: at the same time", x.sound(0, 1, 1), 2);
        same("35: no place", x.stood(0, 10), 0);
        same("35: no first", x.stood(1, 10) + x.stood(2, 10), -2);
        DUE.yes("33: at the same time", x.untell(2));
        same("35: never counted", x.stood(0, 10), 20);
        soundsThatCannotBe(x);
        x.noon();
        x.sweep(0);
        same("35: as told in the text, not as it is now", x.stood(0, 5), 11);
    }

    private static void soundsThatCannotBe(CliffJudges x) {
        same("32: no cliff", x.sound(2, 1, 0) + x.sound(-1, 1, 0), -2);
        same("32: n 0, 11", x.sound(0, 0, 0) + x.sound(0, 11, 0), -2);
        same("32: came", x.sound(0, 3, 4) + x.sound(0, 3, -1), -2);
        same("39: sounds", x.about(12), 3);
        for (int i = 3; i < 30; i++) {
            same("32: number", x.sound(1, 10, 6), i);
        }
        same("32: 30", x.sound(1, 10, 6), -1);
        same("34: by -1, 1001", x.later(-1) + x.later(1001), -2);
        same("34: by 0", x.later(0), 10);
        int time = 10;
        for (int i = 0; i < 99; i++) {
            time = x.later(1000);
        }
        same("34: time", time, 99010);
        same("34: above 100,000", x.later(991), -1);
        same("34: 100,000", x.later(990), 100000);
        same("39: the time", x.about(13), 100000);
    }

    /** Promise 36: ask. */
    private static void questions() {
        CliffJudges none = hills("word a;");
        same("36: no cliffs", none.ask(0, 0), -1);
        CliffJudges x = hills("cliff x at 0;cliff y at 50;back far/25;");
        // From x 25 places each send 0, 1, 2, 3 of n >= 3; from y 49 send 0 and 51 send 1.
        same("36: x, 3 words", x.ask(0, 0), 3);
        same("36: 25 at the most", x.ask(1, 0), 25);
        same("36: another what", x.ask(2, 0) + x.ask(-1, 0), -2);
        x.sound(0, 10, 1);
        // 25 .. 49 are left: y sends 1 to 25 alone, x 1 to all.
        same("36: y, 1 word", x.ask(0, 0), 101);
        same("36: 24 at the most", x.ask(1, 0), 24);
        same("36: as known before", x.ask(1, -1), 25);
        CliffJudges ten = hills("cliff x at 0;back (long=10)*(far<50)*3;");
        same("36: 10 words", ten.ask(0, 0), 10);
        same("36: 50 at the most", ten.ask(1, 0), 50);
        x.sound(0, 9, 3);
        same("36: no place", x.ask(0, 0), -1);
        same("36: no place", x.ask(1, 0), -1);
    }

    /** Promises 37, 38: image, back. */
    private static void images() {
        CliffJudges x = hills(PLAIN);
        same("38: nothing was", x.back(0), -1);
        say(x, 0, 0);
        say(x, 1, 2);
        x.noon();
        x.noon();
        x.call(0);
        same("37: noons", x.image(2), 2);
        same("37: no box", x.image(3) + x.image(-1), -2);
        same("37: no act", x.about(10), 5);
        x.unsay(0);
        x.unsay(1);
        x.sweep(0);
        x.noon();
        x.call(0);
        x.echo(0, 0);
        x.undo();
        same("38: another box", x.back(1), -1);
        same("38: no box", x.back(3) + x.back(-1), -2);
        same("38: acts stay", x.about(10), 9);
        same("38: noons", x.back(2), 2);
        int[] due = {2, 3, 3, 3, 4, 3, 643, 2, 1, 1, 0, 0, 0, 0, 0, 0, 0};
        for (int what = 0; what < due.length; what++) {
            same("38: about " + what, x.about(what), due[what]);
        }
        same("38: cries", x.said(0, 0) * 10 + x.said(1, 0), 2);
        same("38: snow", x.cliff(0, 1) * 10 + x.cliff(1, 1), 31);
        same("38: verdicts", x.man(0, 2) * 10 + x.man(0, 4), 10);
        DUE.no("38: no acts", x.undo() || x.redo());
        x.say(0, 1);
        DUE.yes("38: acts from there on", x.undo());
        x.noon();
        same("38: again", x.back(2), 2);
        same("38: as it was kept", x.about(6), 643);
        x.noon();
        same("37: over it", x.image(2), 3);
        x.noon();
        same("38: the newer one", x.back(2), 3);
    }

    /** Promise 39: about. */
    private static void aboutAll() {
        CliffJudges x = hills(PLAIN + "back 2+(1);");
        say(x, 0, 0, 1, 2);
        say(x, 1, 2, 2);
        x.noon();
        x.undo();
        x.sound(0, 1, 1);
        x.later(77);
        x.feed(1, 2, 3, 4, 5);
        x.echo(0, 0);
        int[] due = {2, 3, 3, 3, 4, 4, 5, 0, 3, 2, 5, 1, 1, 77, 20, 3, 3};
        for (int what = 0; what < due.length; what++) {
            same("39: about " + what, x.about(what), due[what]);
        }
        same("39: another what", x.about(17) + x.about(-1), -2);
        x.untell(0);
        same("39: sounds that were told", x.about(12), 1);
    }
}
