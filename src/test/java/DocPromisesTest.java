import java.util.function.IntUnaryOperator;

/** The document from its constants to its end, each sentence quoted in its order and held against the class. */
public final class DocPromisesTest {
    private static final Due DUE = new Due();
    private static final Doc DOC = new Doc(DUE, "The constants:", null);

    // All comes back, turned about from far off. A row is a YES by c, and no more by an a behind it.
    private static final String GLEN = "word a loud 4;word b;word c loud 7;cliff x at 15;cliff y at 45 snow 1;man m at 20 voice 3;man o at 44;man p at 90 voice 9;"
        + "state s;state t yes;state u;on s c to t;on t a to u;on u b to s;back long;turn far>30;wind 5;draw 100;";

    public static void main(String[] args) {
        constants();
        newObject();
        feed();
        end();
        hills();
        fault();
        cliff();
        man();
        leads();
        say();
        unsay();
        said();
        call();
        noon();
        sweep();
        undoAndRedo();
        echo();
        answers();
        binds();
        pardon();
        pardons();
        ahead();
        yeas();
        clears();
        rhyme();
        joined();
        luck();
        winds();
        more();
        way();
        lies();
        sound();
        untell();
        later();
        stood();
        ask();
        image();
        back();
        about();
        notPromised();
        DOC.close();
        DUE.close();
    }

    private static CliffJudges told(String text) {
        return DUE.hills(text);
    }

    private static void same(String what, long got, long want) {
        DUE.same(what, got, want);
    }

    private static void noneBeside(String what, int least, int most, IntUnaryOperator call) {
        DUE.outside(what, call, least, most);
    }

    private static void constants() {
        DOC.says("The constants: `NONE = -1`: There is none.");
        same("NONE", CliffJudges.NONE, -1);
    }

    private static void newObject() {
        DOC.says("## Promise 1: A new object");
        DOC.says("`CliffJudges()`: Empty HILLS.");
        CliffJudges x = new CliffJudges();
        CliffJudges y = told("");
        for (int what = 0; what <= 16; what++) {
            same("as if an empty text was told, about " + what, x.about(what), y.about(what));
        }
        same("and of nothing there is any", x.about(0) + x.about(1) + x.about(2) + x.about(3) + x.about(4), 0);
    }

    private static void feed() {
        DOC.says("## Promise 2: feed");
        DOC.says("`int feed(int a, int b, int c, int d, int e)`: Twenty bytes come behind those on the TAPE, of each number the highest first: how many there "
            + "are; NONE, and nothing comes, if there would be more than 1,600.");
        CliffJudges x = new CliffJudges();
        same("w i n d   3 ; d r a w   4 2 ; and blanks", x.feed(0x77696e64, 0x20333b64, 0x72617720, 0x34323b20, 0x20202020), 20);
        same("behind those", x.feed(0x20202077, 0x6f726420, 0x613b776f, 0x72642062, 0x3b0a0a0a), 40);
        same("they are there", x.about(14), 40);
        same("read", x.hills(), 0);
        same("wind 3, draw 42, two WORDS", x.about(5) * 1000 + x.about(6) * 10 + x.about(1), 3422);
        for (int i = 1; i <= 80; i++) {
            same("how many there are", x.feed(0, 0, 0, 0, 0), 20 * i);
        }
        same("more than 1,600", x.feed(0, 0, 0, 0, 0), -1);
        same("nothing comes", x.about(14), 1600);
        x.end(1581);
        same("it would be 1,601", x.feed(0, 0, 0, 0, 0), -1);
        same("nothing comes", x.about(14), 1581);
    }

    private static void end() {
        DOC.says("## Promise 3: end");
        DOC.says("`int end(int n)`: The TAPE has its first n bytes: n; NONE, doing nothing, if it has not so many, or n is below 0.");
        CliffJudges x = new CliffJudges();
        Due.feed(x, "wind 3;draw 4;");
        noneBeside("not so many, or below 0", 0, 14, x::end);
        same("nothing was done", x.about(14), 14);
        same("its first 7", x.end(7), 7);
        same("read", x.hills() + x.about(5) * 10 + x.about(6), 30);
        same("none", x.end(0), 0);
    }

    private static void hills() {
        DOC.says("## Promise 4: hills");
        DOC.says("`int hills()`: The TAPE (empty then) are the HILLS (all as told, CRIES are empty, no ACTS are kept, SOUNDS are none, nothing lies there, BOXES "
            + "are empty then; the TIME stays): how many CLIFFS; NONE: a FAULT (all stays).");
        CliffJudges x = told(GLEN);
        Due.say(x, 0, 0, 1);
        Due.say(x, 1, 2);
        x.call(0);
        x.noon();
        x.undo();
        x.sound(0, 3, 1);
        x.later(8);
        x.image(0);
        x.image(2);
        x.echo(0, 0);
        String earnest = Seen.earnest(x);
        String rest = Seen.told(x).replaceAll("FAULT: .*", "");
        String lying = Seen.lying(x);
        same("a FAULT", Due.tell(x, "cliff q at 1;$"), -1);
        DUE.same("all stays: in earnest", Seen.earnest(x), earnest);
        DUE.same("all stays: HILLS, ACTS, SOUNDS, TIME", Seen.told(x).replaceAll("FAULT: .*", ""), rest);
        DUE.same("all stays: what lies there", Seen.lying(x), lying);
        same("but the TAPE is empty", x.about(14), 0);
        same("how many CLIFFS", Due.tell(x, "word k;word l;cliff k at 7 snow 6;cliff l at 8;cliff m at 9;man k at 3;wind 8;draw 77;"), 3);
        same("the TAPE is empty", x.about(14), 0);
        same("all as told", x.about(1) * 10000 + x.about(5) * 1000 + x.about(6) * 10 + x.cliff(0, 1), 28776);
        same("CRIES are empty", x.about(8) + x.about(9), 0);
        same("no ACTS are kept", x.about(10) + x.about(11), 0);
        DUE.no("nor redone", x.undo() || x.redo());
        same("SOUNDS are none", x.about(12), 0);
        same("nothing lies there", x.about(16), 0);
        same("BOXES are empty", x.back(0) + x.back(1) + x.back(2), -3);
        same("no VERDICTS, no NOONS", x.man(0, 2) + x.man(0, 3) + x.man(0, 4) + x.about(7), 0);
        same("the TIME stays", x.about(13), 8);
        same("no CLIFFS", Due.tell(x, "word k;"), 0);
    }

    private static void fault() {
        DOC.says("## Promise 5: fault");
        DOC.says("`int fault(int what)`: Of the latest hills() what 0: its FAULT (0), 1: its place (NONE). NONE for another what.");
        CliffJudges x = new CliffJudges();
        same("no hills() yet", x.fault(0) * 10 + x.fault(1), -1);
        Due.tell(x, "wind 12;");
        same("4 at 5", x.fault(0) * 10 + x.fault(1), 45);
        noneBeside("another what", 0, 1, x::fault);
        Due.tell(x, "wind 1");
        same("2 at 6, of the latest", x.fault(0) * 10 + x.fault(1), 26);
        Due.tell(x, "wind 1;");
        same("none", x.fault(0) * 10 + x.fault(1), -1);
    }

    private static void cliff() {
        DOC.says("## Promise 6: cliff");
        DOC.says("`int cliff(int cliff, int what)`: Of a CLIFF what 0: its place, 1: its snow now; NONE if there is none such, or for another what.");
        CliffJudges x = told(GLEN);
        same("places", x.cliff(0, 0) * 100 + x.cliff(1, 0), 1545);
        same("snow", x.cliff(0, 1) * 10 + x.cliff(1, 1), 1);
        // 100 becomes 771, that 698, that 697, 560: 56 is even.
        for (int i = 0; i < 4; i++) {
            x.noon();
        }
        same("snow now", x.cliff(0, 1) * 10 + x.cliff(1, 1), 12);
        noneBeside("none such", 0, 1, cliff -> x.cliff(cliff, 0));
        noneBeside("another what", 0, 1, what -> x.cliff(1, what));
    }

    private static void man() {
        DOC.says("## Promise 7: man");
        DOC.says("`int man(int man, int what)`: Of a MAN what 0: his place, 1: his voice, 2: VERDICTS of his that were YES, 3: not, 4: none; NONE if there is "
            + "none such, or for another what.");
        CliffJudges x = told(GLEN);
        same("places", x.man(0, 0) * 10000 + x.man(1, 0) * 100 + x.man(2, 0), 204490);
        same("voices", x.man(0, 1) * 100 + x.man(1, 1) * 10 + x.man(2, 1), 309);
        x.call(0);
        x.say(0, 0);
        x.call(0);
        x.call(0);
        x.say(0, 2);
        x.call(0);
        x.call(0);
        x.call(0);
        same("three were YES, two not, one none", x.man(0, 2) * 100 + x.man(0, 3) * 10 + x.man(0, 4), 321);
        same("of his alone", x.man(1, 2) + x.man(1, 3) + x.man(1, 4), 0);
        noneBeside("none such", 0, 2, man -> x.man(man, 2));
        noneBeside("another what", 0, 4, what -> x.man(0, what));
    }

    private static void leads() {
        DOC.says("## Promise 8: leads");
        DOC.says("`int leads(int state, int word)`: To which STATE a WORD leads from a STATE; NONE if one can't be.");
        CliffJudges x = told(GLEN);
        int[] due = {0, 0, 1, 2, 1, 1, 2, 0, 2};
        for (int state = 0; state < 3; state++) {
            for (int word = 0; word < 3; word++) {
                same("from " + state + " by " + word, x.leads(state, word), due[3 * state + word]);
            }
        }
        noneBeside("no STATE", 0, 2, state -> x.leads(state, 0));
        noneBeside("no WORD", 0, 2, word -> x.leads(0, word));
    }

    private static void say() {
        DOC.says("## Promise 9: say");
        DOC.says("`int say(int cry, int word)`: A WORD is said, behind CRY 0 or 1: how many WORDS it has; NONE, doing nothing, if one can't be, or it has 10. "
            + "(An ACT.)");
        CliffJudges x = told(GLEN);
        same("CRY 1 has", x.say(1, 2), 1);
        for (int i = 1; i <= 10; i++) {
            same("CRY 0 has", x.say(0, i % 3), i);
        }
        same("it has 10", x.say(0, 0), -1);
        noneBeside("no CRY", 0, 1, cry -> x.say(cry, 0));
        noneBeside("no WORD", 0, 2, word -> x.say(1, word));
        same("nothing was done", x.about(8) * 10 + x.about(9), 101);
        same("ACTS", x.about(10), 11);
        x.undo();
        same("an ACT", x.about(8), 9);
    }

    private static void unsay() {
        DOC.says("## Promise 10: unsay");
        DOC.says("`int unsay(int cry)`: The last WORD of CRY 0 or 1 is unsaid: which; NONE, doing nothing, if there is none. (An ACT.)");
        CliffJudges x = told(GLEN);
        same("there is none", x.unsay(0) + x.unsay(1), -2);
        Due.say(x, 0, 1, 2);
        Due.say(x, 1, 0);
        same("c", x.unsay(0), 2);
        same("a", x.unsay(1), 0);
        same("b", x.unsay(0), 1);
        same("there is none", x.unsay(0), -1);
        noneBeside("no CRY", 0, 1, x::unsay);
        same("ACTS", x.about(10), 6);
        x.undo();
        same("an ACT", x.said(0, 0), 1);
    }

    private static void said() {
        DOC.says("## Promise 11: said");
        DOC.says("`int said(int cry, int i)`: The i-th WORD of CRY 0 or 1; NONE if there is none such.");
        CliffJudges x = told(GLEN);
        Due.say(x, 0, 1, 2, 0);
        Due.say(x, 1, 2);
        same("b c a", x.said(0, 0) * 100 + x.said(0, 1) * 10 + x.said(0, 2), 120);
        same("c", x.said(1, 0), 2);
        noneBeside("of CRY 0", 0, 2, i -> x.said(0, i));
        noneBeside("of CRY 1", 0, 0, i -> x.said(1, i));
        noneBeside("no CRY", 0, 1, cry -> x.said(cry, 0));
    }

    private static void call() {
        DOC.says("## Promise 12: call");
        DOC.says("`int call(int man)`: A MAN calls: 2: the VERDICT is YES, 1: not, 0: none; NONE, doing nothing, if there is none such. (An ACT.)");
        CliffJudges x = told(GLEN);
        same("none", x.call(0), 0);
        x.say(0, 2);
        same("YES", x.call(0), 2);
        x.say(0, 0);
        same("not", x.call(0), 1);
        noneBeside("none such", 0, 2, x::call);
        same("ACTS", x.about(10), 5);
        x.undo();
        same("an ACT", x.man(0, 2) * 100 + x.man(0, 3) * 10 + x.man(0, 4), 101);
    }

    private static void noon() {
        DOC.says("## Promise 13: noon");
        DOC.says("`int noon()`: A NOON: the wind; NONE, doing nothing, behind 999 of them. (An ACT.)");
        CliffJudges x = told(GLEN);
        int[] winds = {1, 8, 7, 0};
        for (int wind : winds) {
            same("the wind", x.noon(), wind);
        }
        same("ACTS, NOONS", x.about(10) * 10 + x.about(7), 44);
        x.undo();
        same("an ACT", x.about(7) * 1000 + x.about(6), 3697);
        // Past its 512 calls an object is free to answer anything; it keeps to this all the same.
        for (int i = 3; i < 999; i++) {
            x.noon();
        }
        same("999 of them", x.about(7), 999);
        int seed = x.about(6);
        same("behind them", x.noon(), -1);
        same("nothing was done", x.about(7) * 1000 + x.about(6), 999000 + seed);
    }

    private static void sweep() {
        DOC.says("## Promise 14: sweep");
        DOC.says("`int sweep(int cliff)`: A CLIFF is swept: how much snow it had; NONE, doing nothing, if there is none such. (An ACT.)");
        CliffJudges x = told(GLEN);
        same("1", x.sweep(1), 1);
        same("it has none", x.cliff(1, 1), 0);
        same("0", x.sweep(1) + x.sweep(0), 0);
        noneBeside("none such", 0, 1, x::sweep);
        same("ACTS", x.about(10), 3);
        for (int i = 0; i < 3; i++) {
            x.undo();
        }
        same("an ACT", x.cliff(1, 1), 1);
    }

    private static void undoAndRedo() {
        DOC.says("## Promise 15: undo");
        DOC.says("`boolean undo()`: UNDO: true; false if there is none.");
        CliffJudges x = told(GLEN);
        DUE.no("there is none", x.undo());
        Due.say(x, 0, 0, 1);
        DUE.yes("one", x.undo());
        DUE.yes("another", x.undo());
        DUE.no("no more", x.undo());
        same("nothing is said", x.about(8), 0);
        DOC.says("## Promise 16: redo");
        DOC.says("`boolean redo()`: REDO: true; false if there is none.");
        DUE.yes("one", x.redo());
        same("a", x.about(8) * 10 + x.said(0, 0), 10);
        DUE.yes("another", x.redo());
        same("a b", x.about(8) * 10 + x.said(0, 1), 21);
        DUE.no("no more", x.redo());
        DUE.no("none was taken back", told(GLEN).redo());
    }

    private static void echo() {
        DOC.says("## Promise 17: echo");
        DOC.says("`int echo(int man, int cliff)`: The ECHO of CRY 0, called by a MAN, from a CLIFF: how many WORDS; NONE if one can't be. They lie there then "
            + "(behind NONE: nothing).");
        CliffJudges x = told("word a;word b;word c;cliff x at 10;cliff y at 50;man m at 15;man o at 60;back 3-far/40;turn far>30;");
        Due.say(x, 0, 0, 1, 2, 1);
        Due.say(x, 1, 0);
        same("m from x", x.echo(0, 0), 3);
        DUE.lie("b c b", x, 1, 2, 1);
        same("m from y, 35 off", x.echo(0, 1), 3);
        DUE.lie("b c b, turned about", x, 1, 2, 1);
        same("o from x, 50 off", x.echo(1, 0), 2);
        DUE.lie("b c", x, 1, 2);
        noneBeside("no MAN", 0, 1, man -> x.echo(man, 0));
        DUE.lie("behind NONE: nothing", x);
        x.echo(0, 0);
        noneBeside("no CLIFF", 0, 1, cliff -> x.echo(0, cliff));
        DUE.lie("behind NONE: nothing", x);
    }

    private static void answers() {
        DOC.says("## Promise 18: answers");
        DOC.says("`int answers(int man, int what)`: CLIFFS what 0: that ANSWER, 1: whose ECHO is a YES, if a MAN called CRY 0, as bits; NONE if one can't be.");
        CliffJudges x = told("word a;word b;cliff x at 10;cliff y at 20;cliff z at 30;man m at 10;man o at 30;state s;state t yes;on s a to t;on t b to s;"
            + "back far/10;");
        Due.say(x, 0, 0, 1, 0);
        same("m: y, z", x.answers(0, 0), 6);
        same("m: a, b a", x.answers(0, 1), 6);
        x.say(0, 1);
        same("m: b, a b", x.answers(0, 1), 0);
        same("o: x, y", x.answers(1, 0), 3);
        noneBeside("no MAN", 0, 1, man -> x.answers(man, 0));
        noneBeside("another what", 0, 1, what -> x.answers(0, what));
    }

    private static void binds() {
        DOC.says("## Promise 19: binds");
        DOC.says("`int binds(int man)`: Which CLIFF BINDS, if a MAN called CRY 0; NONE if none ANSWERS, or there is none such.");
        CliffJudges x = told("word a;cliff x at 10;cliff y at 30;cliff z at 20;man m at 21;man o at 25;man p at 11;lost far<2;");
        same("none ANSWERS", x.binds(0), -1);
        x.say(0, 0);
        same("m: y, as z is silent", x.binds(0), 1);
        same("o: y and z are like", x.binds(1), 1);
        same("p: z", x.binds(2), 2);
        noneBeside("none such", 0, 2, x::binds);
    }

    private static void pardon() {
        DOC.says("## Promise 20: pardon");
        DOC.says("`int pardon(int man)`: PARDON: how many WORDS; NONE if there is none, there are no CLIFFS, or no such MAN. They lie there then (behind NONE: "
            + "nothing).");
        String text = "word a;word b;#man m at 0;man o at 90;state s;state t;state u yes;on s b to t;on t a to u;back long-far/90*9;";
        CliffJudges x = told(text.replace("#", "cliff x at 0;cliff y at 10;"));
        same("b a", x.pardon(0), 2);
        DUE.lie("b a", x, 1, 0);
        same("there is none: x is silent for o", x.pardon(1), -1);
        DUE.lie("behind NONE: nothing", x);
        x.pardon(0);
        noneBeside("no MAN", 0, 1, x::pardon);
        DUE.lie("behind NONE: nothing", x);
        same("no CLIFFS", told(text.replace("#", "")).pardon(0), -1);
    }

    private static void pardons() {
        DOC.says("## Promise 21: pardons");
        DOC.says("`int pardons(int man, int n)`: PARDONS (n 1 .. 5); NONE if one can't be, or there are no CLIFFS.");
        String text = "word a;word b;#man m at 0;man o at 90;state s;state t;state u yes;on s b to t;on t a to u;back long;";
        CliffJudges x = told(text.replace("#", "cliff x at 0;"));
        // Those with a b, and an a somewhere behind it: all but the n + 1 such as a a b b b.
        int[] due = {0, 1, 4, 11, 26};
        for (int n = 1; n <= 5; n++) {
            same("of " + n, x.pardons(0, n), due[n - 1]);
        }
        noneBeside("n 1 .. 5", 1, 5, n -> x.pardons(0, n));
        noneBeside("no MAN", 0, 1, man -> x.pardons(man, 1));
        same("no CLIFFS", told(text.replace("#", "")).pardons(0, 1), -1);
    }

    private static void ahead() {
        DOC.says("## Promise 22: ahead");
        DOC.says("`int ahead(int man, int cliff, int n)`: AHEAD (n 1 .. 5): how many; NONE if one can't be. The first lies there then (behind 0, NONE: nothing).");
        CliffJudges x = told("word a;word b loud 3;word c;cliff x at 0;cliff y at 9;man m at 0;man o at 1 voice 2;back 2;lost loud<1;");
        Due.say(x, 1, 1);
        // Called by m only b is not lost: of the last two one is b.
        int[] due = {1, 4, 12, 36, 108};
        int[][] first = {{1}, {0, 1}, {0, 0, 1}, {0, 0, 0, 1}, {0, 0, 0, 0, 1}};
        for (int n = 1; n <= 5; n++) {
            same("of " + n, x.ahead(0, 0, n), due[n - 1]);
            DUE.lie("the first of " + n, x, first[n - 1]);
        }
        same("called by o none is lost", x.ahead(1, 1, 2), 0);
        DUE.lie("behind 0: nothing", x);
        x.ahead(0, 0, 1);
        noneBeside("n 1 .. 5", 1, 5, n -> x.ahead(0, 0, n));
        DUE.lie("behind NONE: nothing", x);
        noneBeside("no MAN", 0, 1, man -> x.ahead(man, 0, 1));
        noneBeside("no CLIFF", 0, 1, cliff -> x.ahead(0, cliff, 1));
    }

    private static void yeas() {
        DOC.says("## Promise 23: yeas");
        DOC.says("`int yeas(int voice, int what)`: YEAS (a voice 0 .. 9) what 0: how many, 1: the first, 2: the last one (NONE); NONE if one can't be.");
        CliffJudges x = told("word a;cliff x at 30;state s yes;lost loud<far;");
        same("nothing was said", x.yeas(0, 0) * 10 + x.yeas(0, 1) + x.yeas(0, 2), -2);
        x.say(0, 0);
        for (int voice = 0; voice <= 9; voice++) {
            same("how many", x.yeas(voice, 0), 2 * voice + 1);
            same("the first, the last", x.yeas(voice, 1) * 100 + x.yeas(voice, 2), (30 - voice) * 100 + 30 + voice);
        }
        noneBeside("voice 0 .. 9", 0, 9, voice -> x.yeas(voice, 0));
        noneBeside("another what", 0, 2, what -> x.yeas(0, what));
    }

    private static void clears() {
        DOC.says("## Promise 24: clears");
        DOC.says("`int clears(int man, int what)`: SWEEP what 0: how many, 1: which, as bits; NONE if all are not enough, or one can't be.");
        // x and y must both be still, which they are without snow, for z to BIND.
        CliffJudges x = told("word a;word b;cliff x at 10 snow 1;cliff y at 11 snow 2;cliff z at 50 snow 3;man m at 10;man o at 60;state s;state t yes;on s a to t;"
            + "on t b to s;back 2*(snow>0);turn far>30;");
        Due.say(x, 0, 0, 1);
        same("x, y", x.clears(0, 0) * 10 + x.clears(0, 1), 23);
        same("o: z alone", x.clears(1, 0) * 10 + x.clears(1, 1), 14);
        x.unsay(0);
        same("none", x.clears(0, 0) * 10 + x.clears(0, 1), 0);
        x.unsay(0);
        x.say(0, 1);
        same("all are not enough", x.clears(0, 0) + x.clears(0, 1), -2);
        noneBeside("no MAN", 0, 1, man -> x.clears(man, 0));
        noneBeside("another what", 0, 1, what -> x.clears(0, what));
    }

    private static void rhyme() {
        DOC.says("## Promise 25: rhyme");
        DOC.says("`int rhyme(int man)`: RHYME: how many WORDS; NONE if 3 are not enough, or there is none such. Of each 10 * its place in the CRY and the WORD lie "
            + "there then (behind NONE: nothing).");
        CliffJudges x = told("word a;word b;word c;cliff x at 0;man m at 0;man o at 9;state s;state t;state u;state v;state w yes;on s c to t;on t b to u;on u c to v;"
            + "on v b to w;on w a to s;back long;");
        Due.say(x, 0, 0, 1, 0, 1, 0);
        // c b c b must come, and no a behind it: of a b a b a the first, the third and the last.
        same("three", x.rhyme(1), 3);
        DUE.lie("c, c, and b in place of the last", x, 2, 22, 41);
        x.say(0, 0);
        // c b a c a b: what stays, stays where it is between them; c b c b a a is none.
        same("three of six", x.rhyme(1), 3);
        DUE.lie("the first places that will do", x, 2, 32, 51);
        x.unsay(0);
        x.unsay(0);
        same("two", x.rhyme(0), 2);
        DUE.lie("c, c", x, 2, 22);
        noneBeside("none such", 0, 1, x::rhyme);
        DUE.lie("behind NONE: nothing", x);
        x.unsay(0);
        same("three WORDS can't", x.rhyme(0), -1);
        x.unsay(0);
        x.unsay(0);
        Due.say(x, 0, 0, 0, 0, 1);
        same("a a a a b: three", x.rhyme(0), 3);
        DUE.lie("c, b, c", x, 2, 11, 22);
        x.unsay(0);
        x.echo(0, 0);
        same("a a a a: 4 would be needed", x.rhyme(0), -1);
        DUE.lie("behind NONE: nothing", x);
    }

    private static void joined() {
        DOC.says("## Promise 26: joined");
        DOC.says("`int joined(int man, int other)`: JOINED: 2: the VERDICT is YES, 1: not, 0: none; NONE if one can't be (the same one twice, too).");
        CliffJudges x = told("word a;word b;cliff x at 0;cliff y at 50;man m at 0;man o at 50;man p at 99;state s;state t yes;on s a to t;on t b to s;lost far>20;");
        same("none", x.joined(0, 1), 0);
        x.say(0, 0);
        x.say(1, 1);
        same("a from x BINDS m", x.joined(0, 1), 2);
        same("a from y BINDS o", x.joined(1, 0), 2);
        same("p's is lost, b from x BINDS", x.joined(2, 0), 1);
        same("b is lost", x.joined(0, 2), 2);
        CliffJudges one = told("word a;word b;cliff x at 0;man m at 0;man o at 1;state s;state t yes;on s a to t;on t b to s;");
        one.say(0, 0);
        one.say(1, 1);
        same("a b", one.joined(0, 1), 1);
        noneBeside("no MAN", 0, 2, man -> x.joined(man, 0));
        noneBeside("no other", 0, 2, man -> x.joined(0, man));
        same("the same one twice", x.joined(0, 0) + x.joined(1, 1) + x.joined(2, 2), -3);
    }

    private static void luck() {
        DOC.says("## Promise 27: luck");
        DOC.says("`int luck(int man)`: LUCK; NONE if there is none such.");
        CliffJudges x = told("word a;cliff x at 10;man m at 10 voice 3;man o at 30;state s yes;lost chance<far*2+1-loud;");
        x.say(0, 0);
        // m: never below -2; o: below 41.
        same("m", x.luck(0), 100);
        same("o", x.luck(1), 59);
        noneBeside("none such", 0, 1, x::luck);
    }

    private static void winds() {
        DOC.says("## Promise 28: winds");
        DOC.says("`int winds(int man)`: WINDS, as bits; NONE if there is none such.");
        CliffJudges x = told("word a;cliff x at 10;man m at 12;man o at 17;state s yes;back (blows=far)+(blows=9);");
        x.say(0, 0);
        same("m: 2, 9", x.winds(0), 4 + 512);
        same("o: 7, 9", x.winds(1), 128 + 512);
        noneBeside("none such", 0, 1, x::winds);
    }

    private static void more() {
        DOC.says("## Promise 29: more");
        DOC.says("`int more(int man)`: MORE, as bits (0 if the CRY has 10 WORDS); NONE if there is none such.");
        CliffJudges x = told("word a;word b;word c;word d;cliff x at 10;man m at 12;man o at 17;state s;state t yes;on s b to t;on s d to t;on t a to s;back long;");
        same("b, d", x.more(0), 2 + 8);
        x.say(0, 1);
        same("all but a", x.more(1), 2 + 4 + 8);
        for (int i = 0; i < 8; i++) {
            x.say(0, 2);
        }
        same("the tenth", x.more(1), 2 + 4 + 8);
        x.say(0, 2);
        same("it has 10", x.more(1), 0);
        noneBeside("none such", 0, 1, x::more);
    }

    private static void way() {
        DOC.says("## Promise 30: way");
        DOC.says("`int way(int state)`: WAY: how many WORDS; NONE if there is none, or no such STATE. They lie there then (behind NONE: nothing).");
        CliffJudges x = told("word a;word b;state s;state t;state u;state v;on s b to t;on t a to u;on t b to s;on v a to u;");
        same("to u", x.way(2), 2);
        DUE.lie("b a", x, 1, 0);
        same("there is none", x.way(3), -1);
        DUE.lie("behind NONE: nothing", x);
        x.way(1);
        noneBeside("no STATE", 0, 3, x::way);
        DUE.lie("behind NONE: nothing", x);
        same("to STATE 0", x.way(0), 0);
    }

    private static void lies() {
        DOC.says("## Promise 31: lies");
        DOC.says("`int lies(int i)`: The i-th number of what lies there; NONE if there is none such.");
        CliffJudges x = told("word a;word b;word c;cliff x at 0;man m at 0;back long;");
        noneBeside("nothing lies there", 0, -1, x::lies);
        Due.say(x, 0, 2, 0, 1, 0, 2, 2, 1, 0, 1, 2);
        x.echo(0, 0);
        for (int i = 0; i < 10; i++) {
            same("number " + i, x.lies(i), x.said(0, i));
        }
        noneBeside("none such", 0, 9, x::lies);
    }

    private static void sound() {
        DOC.says("## Promise 32: sound");
        DOC.says("`int sound(int cliff, int n, int came)`: A SOUND (n 1 .. 10, 0 .. n came): its number; NONE, doing nothing, if one can't be, or there are 30.");
        CliffJudges x = told("cliff x at 0;cliff y at 9;");
        noneBeside("no CLIFF", 0, 1, cliff -> x.sound(cliff, 5, 3));
        noneBeside("n 1 .. 10", 1, 10, n -> x.sound(0, n, 1));
        noneBeside("0 .. 5 came", 0, 5, came -> x.sound(0, 5, came));
        same("nothing was done", x.about(12), 0);
        for (int i = 0; i < 30; i++) {
            same("its number", x.sound(i % 2, i % 10 + 1, (i % 10 + 1) * (i % 2)), i);
        }
        same("there are 30", x.sound(0, 5, 3), -1);
        same("nothing was done", x.about(12), 30);
    }

    private static void untell() {
        DOC.says("## Promise 33: untell");
        DOC.says("`boolean untell(int sound)`: It is UNTOLD: true; false if it is so already, or there is none such.");
        CliffJudges x = told("cliff x at 0;back far;");
        x.sound(0, 9, 4);
        x.sound(0, 9, 5);
        same("no place", x.stood(0, 0), 0);
        DUE.yes("UNTOLD", x.untell(1));
        same("4 alone", x.stood(1, 0), 4);
        DUE.no("so already", x.untell(1));
        for (int none : new int[] {-1, 2, 30, Integer.MAX_VALUE, Integer.MIN_VALUE}) {
            DUE.no("none such", x.untell(none));
        }
    }

    private static void later() {
        DOC.says("## Promise 34: later");
        DOC.says("`int later(int by)`: So much later (0 .. 1000): the TIME; NONE, doing nothing, for another number, or if it would be above 100,000.");
        CliffJudges x = new CliffJudges();
        same("0", x.later(0), 0);
        for (int i = 1; i <= 99; i++) {
            same("1000", x.later(1000), 1000 * i);
        }
        noneBeside("another number", 0, 1000, x::later);
        same("1", x.later(1), 99001);
        same("100,001", x.later(1000), -1);
        same("100,000", x.later(999), 100000);
        same("no more", x.later(1), -1);
        same("nothing was done", x.about(13), 100000);
    }

    private static void stood() {
        DOC.says("## Promise 35: stood");
        DOC.says("`int stood(int what, int k)`: STOOD what 0: how many places, 1: the first, 2: the last one (NONE); NONE for another what.");
        CliffJudges x = told("cliff x at 50;back far/20;");
        same("all", x.stood(0, 0) * 10000 + x.stood(1, 0) * 100 + x.stood(2, 0), 1000099);
        x.sound(0, 5, 1);
        // 20 .. 39 off: 11 .. 30, 70 .. 89.
        same("forty", x.stood(0, 0) * 10000 + x.stood(1, 0) * 100 + x.stood(2, 0), 401189);
        x.sound(0, 5, 3);
        same("none", x.stood(0, 0), 0);
        same("no first, no last", x.stood(1, 0) * 10 + x.stood(2, 0), -11);
        noneBeside("another what", 0, 2, what -> x.stood(what, 0));
    }

    private static void ask() {
        DOC.says("## Promise 36: ask");
        DOC.says("`int ask(int what, int k)`: ASK what 0: 100 * the CLIFF and n, 1: how many places are left at the most; NONE without CLIFFS, if no place can be, "
            + "or for another what.");
        CliffJudges x = told("cliff x at 50;cliff y at 0;back far/20;");
        // x: 39 places send 0, 40 send 1, 21 send 2; y: 20 each send 0 .. 4.
        same("y, 4 WORDS", x.ask(0, 0) * 100 + x.ask(1, 0), 10420);
        x.sound(1, 5, 2);
        // 40 .. 59: x sends 0 to all, y 2: nothing parts them.
        same("x, 1 WORD", x.ask(0, 0) * 100 + x.ask(1, 0), 120);
        noneBeside("another what", 0, 1, what -> x.ask(what, 0));
        x.sound(0, 5, 5);
        same("no place can be", x.ask(0, 0) + x.ask(1, 0), -2);
        same("as known before", x.ask(0, -1), 104);
        same("without CLIFFS", told("word a;").ask(0, 0) + told("word a;").ask(1, 0), -2);
    }

    private static void image() {
        DOC.says("## Promise 37: image");
        DOC.says("`int image(int box)`: CRIES, wind, snow, SEED, NOONS, VERDICTS are kept in a BOX 0 .. 2: the NOONS; NONE if there is none such.");
        CliffJudges x = told(GLEN);
        for (int box = 0; box < 3; box++) {
            same("the NOONS", x.image(box), box);
            x.noon();
        }
        noneBeside("none such", 0, 2, x::image);
    }

    private static void back() {
        DOC.says("## Promise 38: back");
        DOC.says("`int back(int box)`: All is as it was kept (no ACTS are kept then): the NOONS; NONE, doing nothing, if nothing was.");
        CliffJudges x = told(GLEN);
        Due.say(x, 0, 2, 0);
        Due.say(x, 1, 1);
        x.call(2);
        for (int i = 0; i < 4; i++) {
            x.noon();
        }
        String kept = Seen.earnest(x);
        x.image(1);
        x.unsay(0);
        x.unsay(1);
        x.call(0);
        x.noon();
        x.sweep(0);
        x.sweep(1);
        x.undo();
        String then = Seen.earnest(x);
        same("nothing was", x.back(0) + x.back(2), -2);
        noneBeside("none such", 0, 2, x::back);
        DUE.same("nothing was done", Seen.earnest(x), then);
        same("ACTS stay", x.about(10) * 10 + x.about(11), 131);
        same("the NOONS", x.back(1), 4);
        DUE.same("all is as it was kept", Seen.earnest(x), kept);
        same("no ACTS are kept", x.about(10) + x.about(11), 0);
        DUE.no("none", x.undo() || x.redo());
    }

    private static void about() {
        DOC.says("## Promise 39: about");
        DOC.says("`int about(int what)`: What 0: CLIFFS, 1: WORDS, 2: MEN, 3: STATES, 4: lines of on, 5: the wind, 6: the SEED, 7: NOONS, 8: WORDS of CRY 0, 9: of "
            + "CRY 1, 10: ACTS that can be undone, 11: redone, 12: SOUNDS, 13: the TIME, 14: bytes on the TAPE, 15: units, 16: how many lie there. NONE for "
            + "another what.");
        CliffJudges x = told("word a;word b;word c;word d;word e;cliff x at 1;cliff y at 2;man m at 1;man o at 1;man p at 1;state s;state t;state u;state v;"
            + "on s a to t;on t b to u;on u c to v;on v d to s;on s e to s;on t e to s;back 3+(far<2)*2;lost loud>3;wind 7;draw 250;");
        Due.say(x, 0, 0, 1, 2, 3, 4, 0, 1);
        Due.say(x, 1, 3, 2);
        x.noon();
        x.noon();
        x.noon();
        x.undo();
        x.sound(0, 5, 5);
        x.sound(1, 5, 5);
        x.sound(1, 6, 5);
        x.untell(1);
        x.later(43);
        x.feed(0, 0, 0, 0, 0);
        x.end(17);
        x.echo(0, 0);
        // 250 becomes 321, and that 48.
        int[] due = {2, 5, 3, 4, 6, 8, 48, 2, 7, 2, 11, 1, 3, 43, 17, 7, 5};
        for (int what = 0; what < due.length; what++) {
            same("about " + what, x.about(what), due[what]);
        }
        noneBeside("another what", 0, 16, x::about);
    }

    private static void notPromised() {
        DOC.says("## Not promised");
        DOC.says("How the state is held inside the object is free, as are the speed of each call, the text of toString and the behaviour of equals and hashCode. "
            + "Use of one object from several threads at once is not promised to be safe. Nothing is promised beyond the answers and state changes described "
            + "above, and nothing about an object after its 512th call.");
        CliffJudges x = told(GLEN);
        CliffJudges y = told(GLEN);
        x.say(0, 0);
        x.later(3);
        same("objects have nothing in common", y.about(8) + y.about(13), 0);
    }
}
