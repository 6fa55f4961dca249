import java.util.ArrayList;
import java.util.Arrays;
import java.util.List;
import java.util.function.IntSupplier;

/** Promises 17 to 31: what is asked, by what is now, at its limits. */
public final class QuestionEdgesTest {
    private static final Due DUE = new Due();
    // By LAW a row is a YES if there is an a in it and no b behind that.
    private static final String ONE_LAW = "state s;state t yes;on s a to t;";
    private static final String LAW = ONE_LAW + "on t b to s;";
    private static final String EIGHT = Due.many(8, "word #;");

    private interface Asking {
        int of(CliffJudges x, int man);
    }

    /** A question, its answer where nothing comes back, and where a comes from the only CLIFF and is a YES. */
    private record Question(String name, Asking asking, int none, int all) { }

    private static final List<Question> QUESTIONS = List.of(new Question("echo", (x, man) -> x.echo(man, 0), 0, 1),
        new Question("answers 0", (x, man) -> x.answers(man, 0), 0, 1), new Question("answers 1", (x, man) -> x.answers(man, 1), 0, 1),
        new Question("binds", CliffJudges::binds, -1, 0), new Question("pardon", CliffJudges::pardon, -1, 1),
        new Question("pardons", (x, man) -> x.pardons(man, 2), 0, 1), new Question("ahead", (x, man) -> x.ahead(man, 0, 1), 0, 1),
        new Question("clears", (x, man) -> x.clears(man, 0), -1, 0), new Question("rhyme", CliffJudges::rhyme, -1, 0),
        new Question("luck", CliffJudges::luck, 0, 100), new Question("more", CliffJudges::more, 0, 1), new Question("call", CliffJudges::call, 0, 2));

    public static void main(String[] args) {
        echoes();
        answering();
        binding();
        lengthsOfPardons();
        pardonsByAll();
        pardonsOfTurnedAndLost();
        pardonsThatCannotBe();
        howManyPardons();
        lengthsAhead();
        whatCameBack();
        aheadThatCannotBe();
        placesOfYeas();
        yeasThatCannotBe();
        ledgesToSweep();
        likeLedges();
        lengthsOfRhymes();
        placesOfRhymes();
        rhymesThatCannotBe();
        rhymesByTheOneThatBinds();
        joining();
        whoBindsTheJoined();
        chances();
        windsThatBlow();
        oneWordMore();
        lengthsOfWays();
        waysThatCannotBe();
        whatLies();
        whatLiesBehindEachCall();
        byWhatIsNow();
        byWhoCalls();
        inEachOrder();
        DUE.close();
    }

    private static int[] row(int n, int word) {
        int[] row = new int[n];
        Arrays.fill(row, word);
        return row;
    }

    private static void unsay(CliffJudges x, int cry, int n) {
        for (int i = 0; i < n; i++) {
            x.unsay(cry);
        }
    }

    /** Promise 17: "how many WORDS; NONE if one can't be". */
    private static void echoes() {
        CliffJudges x = DUE.hills(EIGHT + "cliff x at 99;cliff y at 0;man m at 0;man o at 99;back long*(far=0);");
        DUE.same("17: of an empty CRY", x.echo(0, 1), 0);
        DUE.lie("17: of an empty CRY", x);
        Due.say(x, 0, 7, 0, 1, 2, 3, 4, 5, 6, 7, 0);
        DUE.same("17: 10 WORDS", x.echo(0, 1), 10);
        DUE.lie("17: 10 WORDS", x, 7, 0, 1, 2, 3, 4, 5, 6, 7, 0);
        DUE.same("17: none comes, which is no NONE", x.echo(0, 0), 0);
        DUE.lie("17: none comes", x);
        DUE.same("17: of the other CLIFF", x.echo(1, 0), 10);
        DUE.outside("17: no MAN", man -> x.echo(man, 0), 0, 1);
        DUE.outside("17: no CLIFF", cliff -> x.echo(0, cliff), 0, 1);
        CliffJudges none = DUE.hills("word a;man m at 1;");
        DUE.outside("17: no CLIFFS", cliff -> none.echo(0, cliff), 0, -1);
        CliffJudges nobody = DUE.hills("word a;cliff x at 1;");
        DUE.outside("17: no MEN", man -> nobody.echo(man, 0), 0, -1);
    }

    /** Promise 18: "CLIFFS what 0: that ANSWER, 1: whose ECHO is a YES, as bits; NONE if one can't be". */
    private static void answering() {
        CliffJudges x = DUE.hills("word a;word b;" + Due.many(4, "cliff # at 5;") + "man m at 5;man o at 6;" + LAW + "back 2*(far=0);");
        DUE.same("18: nothing was said", x.answers(0, 0), 0);
        DUE.same("18: nothing was said", x.answers(0, 1), 0);
        x.say(0, 0);
        DUE.same("18: all four", x.answers(0, 0), 15);
        DUE.same("18: all four are a YES", x.answers(0, 1), 15);
        DUE.same("18: none", x.answers(1, 0) + x.answers(1, 1), 0);
        x.say(0, 1);
        DUE.same("18: all four", x.answers(0, 0), 15);
        DUE.same("18: none is a YES", x.answers(0, 1), 0);
        DUE.outside("18: another what", what -> x.answers(0, what), 0, 1);
        DUE.outside("18: no MAN", man -> x.answers(man, 0), 0, 1);
        DUE.outside("18: no MAN", man -> x.answers(man, 1), 0, 1);
        // The empty row comes to STATE 0: a YES if that is yes, though the CLIFF does not ANSWER.
        CliffJudges empty = DUE.hills("word a;cliff x at 1;cliff y at 9;man m at 1;state s yes;back far=0;");
        DUE.same("18: none ANSWERS", empty.answers(0, 0), 0);
        DUE.same("18: the empty row", empty.answers(0, 1), 3);
        CliffJudges law = DUE.hills("word a;cliff x at 1;man m at 1;");
        DUE.same("18: the empty row without STATES", law.answers(0, 1), 0);
        law.say(0, 0);
        DUE.same("18: never without STATES", law.answers(0, 1), 0);
        DUE.same("18: no CLIFFS", DUE.hills("man m at 1;state s yes;").answers(0, 1), 0);
    }

    /** Promise 19: "NONE if none ANSWERS, or there is none such"; "of like ones the first". */
    private static void binding() {
        String four = "word a;cliff w at 50;cliff x at 10;cliff y at 90;cliff z at 49;";
        CliffJudges x = DUE.hills(four + "man m at 50;man o at 30;man p at 99;man q at 0;");
        DUE.same("19: none ANSWERS", x.binds(0), -1);
        x.say(0, 0);
        DUE.same("19: the nearest, 0 far", x.binds(0), 0);
        DUE.same("19: 20 and 19 far", x.binds(1), 3);
        DUE.same("19: 9 far, the other way", x.binds(2), 2);
        DUE.same("19: 10 far", x.binds(3), 1);
        DUE.outside("19: no MAN", x::binds, 0, 3);
        CliffJudges like = DUE.hills("word a;cliff w at 99;cliff x at 60;cliff y at 40;cliff z at 40;man m at 50;man o at 40;");
        like.say(0, 0);
        DUE.same("19: of like ones the first", like.binds(0), 1);
        DUE.same("19: of those at one place the first", like.binds(1), 2);
        CliffJudges silent = DUE.hills("word a;cliff x at 50;cliff y at 0;cliff z at 99;man m at 50;back far>0;");
        silent.say(0, 0);
        DUE.same("19: the nearest one that ANSWERS", silent.binds(0), 2);
        CliffJudges none = DUE.hills("word a;cliff x at 50;man m at 50;lost 1;");
        none.say(0, 0);
        DUE.same("19: all is lost", none.binds(0), -1);
        CliffJudges noCliffs = DUE.hills("word a;man m at 50;");
        noCliffs.say(0, 0);
        DUE.same("19: no CLIFFS", noCliffs.binds(0), -1);
    }

    /** Promise 20: "a CRY of the fewest WORDS (5 at most)". */
    private static void lengthsOfPardons() {
        for (int n = 1; n <= 6; n++) {
            CliffJudges x = DUE.hills("word b;word a;cliff x at 1;man m at 1;" + LAW + "back long>" + (n - 1) + ";");
            DUE.same("20: " + n + " WORDS", x.pardon(0), n <= 5 ? n : -1);
            int[] due = n <= 5 ? row(n, 0) : new int[0];
            if (n <= 5) {
                due[n - 1] = 1;
            }
            DUE.lie("20: " + n + " WORDS", x, due);
        }
        CliffJudges last = DUE.hills(EIGHT + "cliff x at 1;man m at 1;state s;state t yes;on s h to t;back long=5;");
        DUE.same("20: the last of all CRIES", last.pardon(0), 5);
        DUE.lie("20: of like ones the first", last, 0, 0, 0, 0, 7);
        CliffJudges very = DUE.hills(EIGHT + "cliff x at 1;man m at 1;" + Due.many(6, "state #;").replace("state f;", "state f yes;")
            + "on a h to b;on b h to c;on c h to d;on d h to e;on e h to f;back long;");
        DUE.same("20: hhhhh", very.pardon(0), 5);
        DUE.lie("20: hhhhh", very, 7, 7, 7, 7, 7);
        DUE.same("21: it is the only one", very.pardons(0, 5), 1);
    }

    /** "whose ECHO from each CLIFF is a YES (all ANSWER)". */
    private static void pardonsByAll() {
        CliffJudges yes = DUE.hills("word a;cliff x at 1;cliff y at 50;man m at 1;state s yes;back far<9 or long=3;");
        DUE.same("20: all ANSWER", yes.pardon(0), 3);
        DUE.same("21: all ANSWER", yes.pardons(0, 2) * 10 + yes.pardons(0, 3), 1);
        CliffJudges lost = DUE.hills("word a;cliff x at 1;man m at 1;state s yes;lost 1;");
        DUE.same("20: none ANSWERS", lost.pardon(0), -1);
        DUE.same("21: none ANSWERS", lost.pardons(0, 1), 0);
        CliffJudges law = DUE.hills("word a;cliff x at 1;man m at 1;");
        DUE.same("20: never without STATES", law.pardon(0), -1);
        DUE.same("21: never without STATES", law.pardons(0, 1), 0);
        CliffJudges four = DUE.hills("word a;word b;cliff w at 0;cliff x at 10;cliff y at 20;cliff z at 30;man m at 0;" + LAW + "back far/10+1;");
        // The last 1, 2, 3, 4 come: a must be the last of all.
        DUE.same("21: by four CLIFFS", four.pardons(0, 5), 16);
        CliffJudges three = DUE.hills("word a;word b;cliff w at 0;cliff x at 10;man m at 0;" + LAW + "back far/10+1;turn far=10;");
        // The last must be a; turned about, b would come behind it: a a alone.
        DUE.same("21: turned about from one", three.pardons(0, 2), 1);
    }

    private static void pardonsOfTurnedAndLost() {
        // Turned about, c b a leads on to the sixth STATE: a b c must be said.
        CliffJudges turned = DUE.hills(EIGHT + "cliff x at 1;man m at 1;" + Due.many(5, "state #;") + "state f yes;on a c to d;on d b to e;on e a to f;"
            + "back long;turn 1;");
        DUE.same("20: a b c", turned.pardon(0), 3);
        DUE.lie("20: a b c", turned, 0, 1, 2);
        DUE.same("21: a b c alone", turned.pardons(0, 3), 1);
        // Of 4 one more, which must lead nowhere, at one of four places.
        DUE.same("21: of 4", turned.pardons(0, 4), 8 + 7 + 7 + 7);
        // What is said last is lost: what came ahead of it is the row.
        CliffJudges lost = DUE.hills("word a;word b;cliff x at 1;man m at 1;" + LAW + "back long;lost behind=0;");
        DUE.same("20: one that comes, one that is lost", lost.pardon(0), 2);
        DUE.lie("20: a a", lost, 0, 0);
        DUE.same("21: a with any behind it", lost.pardons(0, 1) * 10 + lost.pardons(0, 2), 2);
        CliffJudges both = DUE.hills("word a;word b;cliff x at 1;man m at 1;" + LAW + "back long;lost behind=0;turn 1;");
        DUE.same("21: turned about, the first must be a", both.pardons(0, 3), 4);
    }

    /** "NONE if there is none, there are no CLIFFS, or no such MAN". */
    private static void pardonsThatCannotBe() {
        CliffJudges x = DUE.hills("word a;cliff x at 1;man m at 1;man o at 2;state s yes;");
        DUE.same("20: there is one", x.pardon(1), 1);
        DUE.outside("20: no MAN", x::pardon, 0, 1);
        DUE.outside("21: no MAN", man -> x.pardons(man, 1), 0, 1);
        DUE.outside("21: n 1 .. 5", n -> x.pardons(0, n), 1, 5);
        CliffJudges noCliffs = DUE.hills("word a;man m at 1;state s yes;");
        DUE.same("20: no CLIFFS", noCliffs.pardon(0), -1);
        for (int n = 0; n <= 6; n++) {
            DUE.same("21: no CLIFFS", noCliffs.pardons(0, n), -1);
        }
        CliffJudges noWords = DUE.hills("cliff x at 1;man m at 1;state s yes;");
        DUE.same("20: no WORDS", noWords.pardon(0), -1);
        DUE.same("21: no WORDS", noWords.pardons(0, 1) + noWords.pardons(0, 5), 0);
    }

    /** Promise 21: "how many of just n WORDS there are". */
    private static void howManyPardons() {
        CliffJudges all = DUE.hills(EIGHT + "cliff x at 1;man m at 1;state s yes;");
        int due = 1;
        for (int n = 1; n <= 5; n++) {
            due *= 8;
            DUE.same("21: all of " + n, all.pardons(0, n), due);
        }
        CliffJudges one = DUE.hills("word a;cliff x at 1;man m at 1;state s yes;");
        DUE.same("21: one of each", one.pardons(0, 1) * 10 + one.pardons(0, 5), 11);
        all.say(0, 0);
        DUE.same("21: whatever was said", all.pardons(0, 2), 64);
    }

    /** Promise 22: "AHEAD (n 1 .. 5): how many". */
    private static void lengthsAhead() {
        CliffJudges x = DUE.hills(EIGHT + "cliff x at 1;man m at 1;back 1;");
        x.say(1, 7);
        int due = 1;
        for (int n = 1; n <= 5; n++) {
            DUE.same("22: of " + n, x.ahead(0, 0, n), due);
            int[] first = row(n, 0);
            first[n - 1] = 7;
            DUE.lie("22: the first of " + n, x, first);
            due *= 8;
        }
        CliffJudges whole = DUE.hills(EIGHT + "cliff x at 1;man m at 1;back long;");
        Due.say(whole, 1, 1, 2, 3, 4, 5);
        DUE.same("22: one more than n", whole.ahead(0, 0, 4), 0);
        DUE.same("22: just n", whole.ahead(0, 0, 5), 1);
        DUE.lie("22: just n", whole, 1, 2, 3, 4, 5);
        whole.say(1, 6);
        DUE.same("22: 6 WORDS can't have come", whole.ahead(0, 0, 5), 0);
        DUE.lie("22: behind 0", whole);
        Due.say(whole, 1, 0, 0, 0, 0);
        DUE.same("22: nor 10", whole.ahead(0, 0, 5), 0);
        whole.say(0, 3);
        DUE.same("22: CRY 0 is not looked at", whole.ahead(0, 0, 1), 0);
    }

    /** "come back from a CLIFF just as CRY 1 is": nothing, too. */
    private static void whatCameBack() {
        CliffJudges none = DUE.hills(EIGHT + "cliff x at 1;man m at 1;back 0;");
        DUE.same("22: nothing comes of any", none.ahead(0, 0, 5), 32768);
        DUE.lie("22: the first of any", none, 0, 0, 0, 0, 0);
        none.say(1, 0);
        DUE.same("22: something comes of none", none.ahead(0, 0, 5), 0);
        CliffJudges some = DUE.hills("word a;word b;cliff x at 1;man m at 1;");
        DUE.same("22: nothing, where all comes", some.ahead(0, 0, 1), 0);
        CliffJudges lost = DUE.hills("word a;word b loud 1;word c;cliff x at 1;man m at 1;back long;lost loud;turn 1;");
        Due.say(lost, 1, 2, 0);
        DUE.same("22: acb, abc, bac", lost.ahead(0, 0, 3), 3);
        DUE.lie("22: the first", lost, 0, 1, 2);
        CliffJudges few = DUE.hills("word a;word b;word c;cliff x at 1;man m at 1;back 1;");
        few.say(1, 2);
        DUE.same("22: of three WORDS, whatever was ahead", few.ahead(0, 0, 3), 9);
        DUE.lie("22: the first", few, 0, 0, 2);
        CliffJudges noWords = DUE.hills("cliff x at 1;man m at 1;");
        DUE.same("22: no WORDS", noWords.ahead(0, 0, 1), 0);
    }

    /** "NONE if one can't be"; "(behind 0, NONE: nothing)". */
    private static void aheadThatCannotBe() {
        CliffJudges x = DUE.hills("word a;cliff x at 1;cliff y at 1;man m at 1;man o at 2;");
        x.say(1, 0);
        DUE.same("22: one", x.ahead(1, 1, 1), 1);
        DUE.outside("22: no MAN", man -> x.ahead(man, 0, 1), 0, 1);
        DUE.outside("22: no CLIFF", cliff -> x.ahead(0, cliff, 1), 0, 1);
        DUE.outside("22: n 1 .. 5", n -> x.ahead(0, 0, n), 1, 5);
    }

    /** Promise 23: "places (0 .. 99)"; "what 0: how many, 1: the first, 2: the last one (NONE)". */
    private static void placesOfYeas() {
        String[] backs = {"far=0", "far=1", "far<2", "far=99", "far>97", "1", "0", "far=50"};
        int[][] due = {{1, 0, 0}, {1, 1, 1}, {2, 0, 1}, {1, 99, 99}, {2, 98, 99}, {100, 0, 99}, {0, -1, -1}, {1, 50, 50}};
        for (int i = 0; i < backs.length; i++) {
            CliffJudges x = DUE.hills("word a;cliff x at 0;" + ONE_LAW + "back " + backs[i] + ";");
            DUE.same("23: nothing was said", x.yeas(0, 0) * 10 + x.yeas(0, 1) + x.yeas(0, 2), -2);
            x.say(0, 0);
            for (int what = 0; what < 3; what++) {
                DUE.same("23: " + backs[i] + " what " + what, x.yeas(0, what), due[i][what]);
            }
        }
        CliffJudges other = DUE.hills("word a;cliff x at 99;" + ONE_LAW + "back far=99;");
        other.say(0, 0);
        DUE.same("23: from the other end", other.yeas(9, 1), 0);
        CliffJudges gap = DUE.hills("word a;cliff x at 40;" + ONE_LAW + "back far=10;");
        gap.say(0, 0);
        DUE.same("23: two, with others between", gap.yeas(9, 0) * 10000 + gap.yeas(9, 1) * 100 + gap.yeas(9, 2), 23050);
        CliffJudges voice = DUE.hills("word a loud 9;cliff x at 0;man m at 0 voice 9;" + ONE_LAW + "lost loud<18;");
        voice.say(0, 0);
        DUE.same("23: voice 9", voice.yeas(9, 0), 100);
        DUE.same("23: voice 8", voice.yeas(8, 0), 0);
        DUE.same("23: voice 0", voice.yeas(0, 0), 0);
    }

    private static void yeasThatCannotBe() {
        CliffJudges x = DUE.hills("word a;cliff x at 0;state s yes;");
        x.say(0, 0);
        DUE.outside("23: a voice 0 .. 9", voice -> x.yeas(voice, 0), 0, 9);
        DUE.outside("23: another what", what -> x.yeas(0, what), 0, 2);
        DUE.same("23: no CLIFFS", DUE.hills("word a;state s yes;").yeas(0, 0), 0);
        CliffJudges law = DUE.hills("word a;cliff x at 0;");
        law.say(0, 0);
        DUE.same("23: never without STATES", law.yeas(0, 0), 0);
    }

    /** Promise 24: "the fewest CLIFFS without snow"; "NONE if all are not enough, or one can't be". */
    private static void ledgesToSweep() {
        // Snow: b comes, which is no YES. None: nothing comes but from the farthest, a b, a YES.
        String law = "word a;word b;state s;state t yes;state u;on s a to t;on s b to u;";
        for (int n = 1; n <= 4; n++) {
            String cliffs = "cliff w at 30 snow 9;cliff x at 20 snow 1;cliff y at 10 snow 1;cliff z at 0 snow 1;";
            int place = 10 * (4 - n);
            String told = law + cliffs + "man m at 0;back (snow>0)*(far+1>" + place + ")+(snow=0)*(far=30)*2;";
            CliffJudges x = DUE.hills(told);
            Due.say(x, 0, 0, 1);
            DUE.same("24: how many", x.clears(0, 0), n);
            DUE.same("24: which", x.clears(0, 1), (1 << n) - 1);
        }
        CliffJudges x = DUE.hills(law + "cliff x at 1 snow 1;man m at 1;man o at 2;");
        x.say(0, 1);
        DUE.same("24: all are not enough", x.clears(0, 0), -1);
        DUE.same("24: nor which", x.clears(0, 1), -1);
        x.unsay(0);
        DUE.same("24: nothing was said", x.clears(0, 0), -1);
        x.say(0, 0);
        DUE.same("24: a YES with snow", x.clears(1, 0), 0);
        DUE.same("24: none, as bits", x.clears(1, 1), 0);
        DUE.outside("24: no MAN", man -> x.clears(man, 0), 0, 1);
        DUE.outside("24: another what", what -> x.clears(0, what), 0, 1);
        CliffJudges none = DUE.hills("word a;man m at 1;state s yes;");
        none.say(0, 0);
        DUE.same("24: no CLIFFS", none.clears(0, 0), -1);
    }

    /** "of like ones the least as bits". */
    private static void likeLedges() {
        CliffJudges one = DUE.hills("word a;cliff w at 0 snow 2;cliff x at 6 snow 1;cliff y at 7 snow 1;cliff z at 8 snow 1;man m at 9;"
            + ONE_LAW + "back snow=0 and far<9;");
        one.say(0, 0);
        DUE.same("24: x, y or z: one", one.clears(0, 0), 1);
        DUE.same("24: the least as bits, not the nearest", one.clears(0, 1), 2);
        // From z comes what is no YES, if there is snow; and nothing, if there is none.
        CliffJudges two = DUE.hills("word a;word b;cliff w at 0 snow 2;cliff x at 6 snow 1;cliff y at 7 snow 1;cliff z at 9 snow 1;man m at 9;"
            + LAW + "back (snow>0)*(far=0)+2*(snow=0)*(far>0)*(far<9);turn far;");
        Due.say(two, 0, 0, 1);
        DUE.same("24: z, and x or y: two", two.clears(0, 0), 2);
        DUE.same("24: the least as bits", two.clears(0, 1), 10);
        // By the snow of now, not as told.
        CliffJudges now = DUE.hills("word a;cliff x at 1;man m at 1;" + ONE_LAW + "back snow=0;draw 397;");
        now.say(0, 0);
        DUE.same("24: no snow as told", now.clears(0, 0), 0);
        now.noon();
        DUE.same("24: one by the snow of now", now.clears(0, 0), 1);
        DUE.same("24: nothing is done", now.cliff(0, 1), 1);
    }

    /** Promise 25: "the fewest WORDS of CRY 0 (3 at most)"; "NONE if 3 are not enough". */
    private static void lengthsOfRhymes() {
        String ring = "word b;word a;cliff x at 1;man m at 1;state s;state t;state u;state v;state w;state x;"
            + "on s a to t;on t a to u;on u a to v;on v a to w;on w a to x;back long;";
        for (int n = 1; n <= 4; n++) {
            CliffJudges x = DUE.hills(ring.replace("state " + "stuvwx".charAt(n) + ";", "state " + "stuvwx".charAt(n) + " yes;"));
            Due.say(x, 0, 0, 0, 0, 0);
            DUE.same("25: " + n + " to be changed", x.rhyme(0), n <= 3 ? n : -1);
            int[] due = new int[n <= 3 ? n : 0];
            for (int i = 0; i < due.length; i++) {
                due[i] = 10 * i + 1;
            }
            DUE.lie("25: the first places", x, due);
        }
        CliffJudges yes = DUE.hills("word a;word b;cliff x at 1;man m at 1;" + LAW);
        yes.say(0, 0);
        DUE.same("25: a YES already", yes.rhyme(0), 0);
        DUE.lie("25: none", yes);
    }

    /** "of like ones the first (by their places in the CRY, all of these, then WORD by WORD)". */
    private static void placesOfRhymes() {
        CliffJudges last = DUE.hills(EIGHT + "cliff x at 1;man m at 1;state s;state t yes;on s h to t;back 1;");
        Due.say(last, 0, 0, 0, 0, 0, 0, 0, 0, 0, 0, 0);
        DUE.same("25: the last place, the last WORD", last.rhyme(0), 1);
        DUE.lie("25: the last place, the last WORD", last, 97);
        CliffJudges first = DUE.hills(EIGHT + "cliff x at 1;man m at 1;state s;state t yes;on s a to t;on s b to t;back long;");
        Due.say(first, 0, 7, 7);
        DUE.same("25: the first place", first.rhyme(0), 1);
        DUE.lie("25: the first WORD", first, 0);
        // Places 0 and 1 by h h are ahead of 0 and 2 by a a: places first, all of these.
        CliffJudges places = DUE.hills(EIGHT + "cliff x at 1;man m at 1;state s;state t;state u;state v yes;on s h to t;on t h to v;"
            + "on s a to u;on u c to u;on u a to v;back long;");
        Due.say(places, 0, 2, 2, 2);
        DUE.same("25: two", places.rhyme(0), 2);
        DUE.lie("25: places ahead of WORDS", places, 0, 10);
        CliffJudges order = DUE.hills(EIGHT + "cliff x at 1;man m at 1;state s;state t;state v yes;on s h to t;on t h to v;back long;lost behind=1 and far=9;");
        Due.say(order, 0, 2, 2, 2);
        DUE.same("25: two", order.rhyme(0), 2);
        DUE.lie("25: 0 and 1 ahead of 0 and 2", order, 7, 17);
        Due.say(order, 0, 7);
        DUE.same("25: one", order.rhyme(0), 1);
        DUE.lie("25: with the one that is there", order, 7);
        CliffJudges again = DUE.hills("word a;word b;word c;cliff x at 1;man m at 1;state s;state t;state v yes;on s c to t;on t c to v;back long;");
        Due.say(again, 0, 0, 0);
        DUE.same("25: two", again.rhyme(0), 2);
        DUE.lie("25: the last of all WORDS for both", again, 2, 12);
        CliffJudges three = DUE.hills(EIGHT + "cliff x at 1;man m at 1;state s;state t;state u;state v yes;on s h to t;on t h to u;on u h to v;back 3;");
        Due.say(three, 0, 0, 0, 0, 0, 0, 0, 0, 0, 0, 0);
        DUE.same("25: the last three of ten", three.rhyme(0), 3);
        DUE.lie("25: the last three of ten", three, 77, 87, 97);
    }

    private static void rhymesThatCannotBe() {
        CliffJudges x = DUE.hills("word a;word b;cliff x at 1;man m at 1;man o at 2;" + LAW);
        DUE.same("25: an empty CRY", x.rhyme(0), -1);
        x.say(0, 1);
        DUE.same("25: one", x.rhyme(1), 1);
        DUE.outside("25: no MAN", x::rhyme, 0, 1);
        CliffJudges one = DUE.hills("word a;cliff x at 1;man m at 1;state s;state t yes;");
        one.say(0, 0);
        DUE.same("25: no other WORD", one.rhyme(0), -1);
        CliffJudges none = DUE.hills("word a;word b;man m at 1;state s yes;");
        none.say(0, 0);
        DUE.same("25: no CLIFFS", none.rhyme(0), -1);
        CliffJudges law = DUE.hills("word a;word b;cliff x at 1;man m at 1;");
        law.say(0, 0);
        DUE.same("25: never without STATES", law.rhyme(0), -1);
        CliffJudges lost = DUE.hills("word a;word b;cliff x at 1;man m at 1;state s yes;lost 1;");
        lost.say(0, 0);
        DUE.same("25: nothing comes back", lost.rhyme(0), -1);
        // Another WORD must be another: a in place of a would be no change, and b is lost.
        CliffJudges other = DUE.hills("word a;word b loud 1;cliff x at 1;man m at 1;state s;state t yes;on s a to t;on t a to s;back long;lost loud;");
        Due.say(other, 0, 0, 0);
        DUE.same("25: one of them lost", other.rhyme(0), 1);
        DUE.lie("25: the first", other, 1);
    }

    /** "by which he has VERDICT YES": the nearest CLIFF that ANSWERS then BINDS, whichever that is. */
    private static void rhymesByTheOneThatBinds() {
        // From w, 5 far, all comes; from x, 1 far, only what is loud.
        String told = "word c loud 9;word a;word b;cliff w at 15;cliff x at 11;man m at 10;" + LAW + "back long;lost far<2 and loud<9;";
        CliffJudges x = DUE.hills(told);
        Due.say(x, 0, 0, 1);
        DUE.same("25: x must be silent", x.rhyme(0), 1);
        DUE.lie("25: a a", x, 1);
        x.unsay(0);
        DUE.same("25: x is silent, w says a", x.rhyme(0), 1);
        DUE.lie("25: a", x, 1);
        x.say(0, 2);
        DUE.same("25: both must be other ones", x.rhyme(0), 2);
        DUE.lie("25: a a", x, 1, 11);
        x.unsay(0);
        x.unsay(0);
        x.say(0, 2);
        DUE.same("25: c is no YES, a is one", x.rhyme(0), 1);
        DUE.lie("25: a", x, 1);
        // Three CLIFFS, the nearest told last: from it the CRY comes turned about.
        CliffJudges three = DUE.hills("word a;word b;cliff w at 30;cliff x at 20;cliff y at 11;man m at 10;" + LAW + "back long;turn far=1;");
        Due.say(three, 0, 1, 0);
        DUE.same("25: from y a b comes", three.rhyme(0), 1);
        DUE.lie("25: a a", three, 0);
        // Of those that are like near the first BINDS: from it b a comes, turned about.
        CliffJudges like = DUE.hills("word a;word b;cliff w at 9;cliff x at 11 snow 1;man m at 10;" + LAW + "back long;turn snow=0;");
        Due.say(like, 0, 0, 1);
        DUE.same("25: w binds", like.rhyme(0), 0);
        // a is lost from the only CLIFF: a WORD that comes must be found behind it.
        CliffJudges silent = DUE.hills("word a;word c loud 3;word b;cliff x at 1;man m at 1;state s;state t yes;on s c to t;back long;lost loud=0;");
        silent.say(0, 2);
        DUE.same("25: what is lost is no YES", silent.rhyme(0), 1);
        DUE.lie("25: c", silent, 1);
    }

    /** Promise 26: "2: the VERDICT is YES, 1: not, 0: none; NONE if one can't be (the same one twice, too)". */
    private static void joining() {
        CliffJudges x = DUE.hills("word a;word b;cliff x at 1;man m at 1;man o at 2;man p at 3;man q at 4;" + LAW + "back long;");
        DUE.same("26: none", x.joined(0, 3), 0);
        for (int man = 0; man < 4; man++) {
            DUE.same("26: the same one twice", x.joined(man, man), -1);
        }
        DUE.outside("26: no MAN", man -> x.joined(man, 0), 0, 3);
        DUE.outside("26: no other MAN", man -> x.joined(0, man), 0, 3);
        DUE.same("26: there is none such twice", x.joined(4, 4), -1);
        x.say(1, 0);
        DUE.same("26: CRY 1 alone", x.joined(3, 0), 2);
        x.say(0, 1);
        DUE.same("26: b a", x.joined(3, 0), 2);
        x.say(1, 1);
        DUE.same("26: b a b", x.joined(3, 0), 1);
        unsay(x, 1, 2);
        DUE.same("26: CRY 0 alone", x.joined(0, 3), 1);
        // Ten and ten: only the last of twenty is b.
        CliffJudges full = DUE.hills("word a;word b;cliff x at 1;man m at 1;man o at 2;state s;state t yes;on s b to t;on t a to s;back long;");
        Due.say(full, 0, row(10, 0));
        Due.say(full, 1, row(9, 0));
        full.say(1, 1);
        DUE.same("26: all twenty", full.joined(0, 1), 2);
        full.unsay(1);
        DUE.same("26: nineteen", full.joined(0, 1), 1);
        CliffJudges none = DUE.hills("word a;man m at 1;man o at 2;state s yes;");
        none.say(0, 0);
        DUE.same("26: no CLIFFS", none.joined(0, 1), 0);
    }

    /** "of those from which something comes so the one nearest to the first BINDS". */
    private static void whoBindsTheJoined() {
        CliffJudges x = DUE.hills("word a;word b;cliff x at 0;cliff y at 99;man m at 0;man o at 99;" + LAW + "back far=0;");
        x.say(1, 0);
        DUE.same("26: only the other's comes, from the farthest", x.joined(0, 1), 2);
        x.say(0, 1);
        DUE.same("26: the first's comes from the nearest", x.joined(0, 1), 1);
        CliffJudges like = DUE.hills("word a;word b;cliff x at 60;cliff y at 40;man m at 50;man o at 40;" + LAW + "back long;turn far=10 or far=20;");
        Due.say(like, 0, 1, 0);
        DUE.same("26: of like ones the first", like.joined(0, 1), 1);
        CliffJudges each = DUE.hills("word a loud 1;word b;cliff x at 5;man m at 0 voice 9;man o at 9;" + LAW + "lost loud<2;");
        each.say(0, 1);
        each.say(1, 0);
        DUE.same("26: each by his own voice", each.joined(0, 1) * 10 + each.joined(1, 0), 12);
    }

    /** Promise 27: "chances (0 .. 99)"; "NONE if there is none such". */
    private static void chances() {
        String[] losts = {"0", "1", "chance", "not chance", "chance=99", "chance<99", "chance>99", "chance<100", "chance>49", "chance<25"};
        int[] due = {100, 0, 1, 99, 99, 1, 100, 0, 50, 75};
        for (int i = 0; i < losts.length; i++) {
            CliffJudges x = DUE.hills("word a;cliff x at 1;man m at 1;man o at 1;" + ONE_LAW + "lost " + losts[i] + ";");
            DUE.same("27: nothing was said", x.luck(0), 0);
            x.say(0, 0);
            DUE.same("27: " + losts[i], x.luck(1), due[i]);
            DUE.outside("27: no MAN", x::luck, 0, 1);
            DUE.same("27: else it is 0", x.call(0), losts[i].equals("1") || losts[i].equals("not chance") || losts[i].startsWith("chance<") ? 0 : 2);
        }
        CliffJudges law = DUE.hills("word a;cliff x at 1;man m at 1;");
        law.say(0, 0);
        DUE.same("27: never without STATES", law.luck(0), 0);
    }

    /** Promise 28: "those (0 .. 9) by which it is, as bits". */
    private static void windsThatBlow() {
        String[] backs = {"0", "1", "blows=0", "blows=9", "blows>8", "blows<2", "blows%2", "blows=10"};
        int[] due = {0, 1023, 1, 512, 512, 3, 682, 0};
        for (int i = 0; i < backs.length; i++) {
            CliffJudges x = DUE.hills("word a;cliff x at 1;man m at 1;man o at 1;" + ONE_LAW + "wind 5;back " + backs[i] + ";");
            DUE.same("28: nothing was said", x.winds(0), 0);
            x.say(0, 0);
            DUE.same("28: " + backs[i], x.winds(1), due[i]);
            DUE.same("28: the wind stays", x.about(5), 5);
            DUE.outside("28: no MAN", x::winds, 0, 1);
        }
    }

    /** Promise 29: "as bits (0 if the CRY has 10 WORDS); NONE if there is none such". */
    private static void oneWordMore() {
        CliffJudges all = DUE.hills(EIGHT + "cliff x at 1;man m at 1;man o at 1;state s yes;");
        for (int n = 0; n <= 10; n++) {
            DUE.same("29: behind " + n, all.more(1), n < 10 ? 255 : 0);
            DUE.outside("29: no MAN", all::more, 0, 1);
            DUE.same("29: nothing was said", all.about(8), n);
            all.say(0, 0);
        }
        CliffJudges last = DUE.hills(EIGHT + "cliff x at 1;man m at 1;state s;state t yes;on s h to t;back 1;");
        DUE.same("29: the last WORD", last.more(0), 128);
        CliffJudges longer = DUE.hills("word a;cliff x at 1;man m at 1;state s yes;back long=10;");
        Due.say(longer, 0, row(8, 0));
        DUE.same("29: 9 WORDS then", longer.more(0), 0);
        longer.say(0, 0);
        DUE.same("29: 10 WORDS then", longer.more(0), 1);
        CliffJudges none = DUE.hills("cliff x at 1;man m at 1;state s yes;");
        DUE.same("29: no WORDS", none.more(0), 0);
        CliffJudges noCliffs = DUE.hills("word a;man m at 1;state s yes;");
        DUE.same("29: no CLIFFS", noCliffs.more(0), 0);
    }

    /** Promise 30: "the fewest WORDS that lead there from STATE 0; of like ones the first". */
    private static void lengthsOfWays() {
        CliffJudges chain = DUE.hills(EIGHT + Due.many(6, "state #;") + "on a h to b;on b a to c;on c h to d;on d a to e;on e h to f;");
        int[] due = {7, 0, 7, 0, 7};
        for (int state = 0; state < 6; state++) {
            DUE.same("30: to " + state, chain.way(state), state);
            DUE.lie("30: to " + state, chain, Arrays.copyOf(due, state));
        }
        CliffJudges like = DUE.hills(EIGHT + Due.many(4, "state #;") + "on a b to c;on a h to b;on a g to d;on b a to d;on c h to d;");
        DUE.same("30: the fewest", like.way(3), 1);
        DUE.lie("30: the fewest", like, 6);
        CliffJudges first = DUE.hills(EIGHT + Due.many(4, "state #;") + "on a b to c;on a h to b;on b a to d;on c h to d;on c g to d;");
        DUE.same("30: of like ones the first", first.way(3), 2);
        DUE.lie("30: of like ones the first", first, 1, 6);
        CliffJudges each = DUE.hills("word a;word b;state s;state t;state u;on s a to t;on s b to t;on t a to u;on t b to u;");
        DUE.same("30: by each WORD", each.way(2), 2);
        DUE.lie("30: by the first WORD", each, 0, 0);
        CliffJudges around = DUE.hills("word a;" + Due.many(2, "state #;") + "on a a to b;on b a to a;");
        DUE.same("30: to STATE 0 no WORD", around.way(0), 0);
    }

    /** "NONE if there is none, or no such STATE". */
    private static void waysThatCannotBe() {
        CliffJudges x = DUE.hills("word a;state s;state t;on t a to s;");
        DUE.same("30: there is none", x.way(1), -1);
        DUE.lie("30: behind NONE nothing", x);
        DUE.outside("30: no STATE", x::way, 0, 1);
        CliffJudges full = DUE.hills("word a;" + Due.many(6, "state #;") + "on a a to f;");
        DUE.same("30: the last STATE", full.way(5), 1);
        DUE.outside("30: no STATE", full::way, 0, 5);
        CliffJudges noWords = DUE.hills("state s;state t;");
        DUE.same("30: no WORDS, STATE 0", noWords.way(0), 0);
        DUE.same("30: no WORDS", noWords.way(1), -1);
        DUE.outside("30: no STATES", new CliffJudges()::way, 0, -1);
    }

    /** Promise 31: "NONE if there is none such". */
    private static void whatLies() {
        CliffJudges x = DUE.hills(EIGHT + "cliff x at 1;man m at 1;back long;");
        DUE.outside("31: nothing lies there", x::lies, 0, -1);
        for (int n = 1; n <= 10; n++) {
            int last = n - 1;
            x.say(0, n % 8);
            DUE.same("31: what lay there stays, whatever is said", x.about(16), last);
            x.echo(0, 0);
            DUE.same("31: the last of " + n, x.lies(last), n % 8);
            DUE.same("31: the first of " + n, x.lies(0), 1);
            DUE.outside("31: of " + n, x::lies, 0, last);
        }
    }

    /** "They lie there then (behind NONE: nothing)": each call that lays something there, and each that does not. */
    private static void whatLiesBehindEachCall() {
        CliffJudges x = DUE.hills("word b;word a;cliff x at 1;man m at 1;man o at 2;" + LAW + "back long;");
        Due.say(x, 0, 1, 0);
        Due.say(x, 1, 1);
        List<IntSupplier> laying = List.of(() -> x.echo(2, 0), () -> x.echo(0, 1), () -> x.pardon(2),
            () -> x.ahead(2, 0, 1), () -> x.ahead(0, 1, 1), () -> x.ahead(0, 0, 0), () -> x.ahead(0, 0, 6), () -> x.rhyme(2), () -> x.way(2));
        for (IntSupplier call : laying) {
            DUE.same("31: a, b lie there", x.echo(0, 0), 2);
            DUE.same("31: NONE", call.getAsInt(), -1);
            DUE.lie("31: behind NONE nothing", x);
        }
        DUE.same("31: a, b lie there", x.echo(0, 0), 2);
        DUE.same("22: 0", x.ahead(0, 0, 2), 0);
        DUE.lie("22: behind 0 nothing", x);
        List<IntSupplier> others = List.of(() -> x.answers(0, 0), () -> x.binds(0), () -> x.pardons(0, 2), () -> x.yeas(0, 0),
            () -> x.clears(0, 0), () -> x.joined(0, 1), () -> x.luck(0), () -> x.winds(0), () -> x.more(0), () -> x.stood(0, 0), () -> x.ask(0, 0),
            () -> x.answers(2, 0), () -> x.binds(2), () -> x.pardons(2, 2), () -> x.yeas(10, 0), () -> x.clears(2, 0), () -> x.joined(0, 0),
            () -> x.luck(2), () -> x.winds(2), () -> x.more(2), () -> x.call(0), () -> x.noon(), () -> x.sweep(0), () -> x.image(0), () -> x.back(0),
            () -> x.lies(0), () -> x.said(0, 0), () -> x.about(3), () -> x.leads(0, 0), () -> x.sound(0, 1, 1), () -> x.later(1), () -> x.fault(0));
        x.echo(0, 0);
        for (IntSupplier call : others) {
            call.getAsInt();
            DUE.lie("31: what lay there stays", x, 1, 0);
        }
        DUE.same("4: a FAULT", Due.tell(x, "#"), -1);
        DUE.lie("4: all stays behind a FAULT", x, 1, 0);
        DUE.same("4: good HILLS", x.hills(), 0);
        DUE.lie("4: nothing lies there then", x);
    }

    /** "By what is now": the wind and the snow of now, not as told, nor as they were when something else was asked. */
    private static void byWhatIsNow() {
        List<Question> all = new ArrayList<>(QUESTIONS);
        all.add(new Question("yeas", (x, man) -> x.yeas(0, 0), 0, 100));
        all.add(new Question("joined", (x, man) -> x.joined(man, 1), 0, 2));
        all.add(new Question("joined, the other", (x, man) -> x.joined(1, man), 0, 2));
        for (Question question : all) {
            for (String back : new String[] {"blows=0", "snow=1", "blows=0 and snow=1"}) {
                // The wind is 3 as told, 0 behind a NOON (460), which brings snow.
                CliffJudges x = DUE.hills("word a;cliff x at 1;man m at 1;man o at 2;" + ONE_LAW + "back " + back + ";wind 3;draw 397;");
                x.say(0, 0);
                x.say(1, 0);
                DUE.same(question.name + ", as told, " + back, question.asking.of(x, 0), question.none);
                x.noon();
                DUE.same(question.name + ", behind a NOON, " + back, question.asking.of(x, 0), question.all);
                x.sweep(0);
                boolean bySnow = back.endsWith("snow=1");
                DUE.same(question.name + ", swept, " + back, question.asking.of(x, 0), bySnow ? question.none : question.all);
            }
        }
        CliffJudges winds = DUE.hills("word a;cliff x at 1;man m at 1;" + ONE_LAW + "back snow=1;wind 3;draw 397;");
        winds.say(0, 0);
        DUE.same("28: as told", winds.winds(0), 0);
        winds.noon();
        DUE.same("28: by the snow of now", winds.winds(0), 1023);
    }

    /** From the place and by the voice of the MAN who is asked for, whoever was asked for before. */
    private static void byWhoCalls() {
        for (Question question : QUESTIONS) {
            CliffJudges x = DUE.hills("word a;cliff x at 10;man m at 10 voice 9;man o at 11;man p at 11 voice 9;" + ONE_LAW + "lost far=0 or loud<9;");
            x.say(0, 0);
            x.say(1, 0);
            for (int man : new int[] {0, 2, 1, 2, 0, 1}) {
                DUE.same(question.name + " of MAN " + man, question.asking.of(x, man), man == 2 ? question.all : question.none);
            }
            DUE.same("28: winds", x.winds(2) * 10 + x.winds(0), 10230);
            DUE.same("26: the first's comes", x.joined(2, 0), 2);
            DUE.same("26: the other's comes", x.joined(0, 2), 2);
            DUE.same("26: neither's comes", x.joined(0, 1), 0);
        }
    }

    /** Four CLIFFS at four places, in each order: the nearest one that ANSWERS BINDS, of like ones the first. */
    private static void inEachOrder() {
        int[][] sets = {{51, 52, 53, 54}, {49, 51, 48, 52}};
        for (int order = 0; order < 256; order++) {
            int[] of = {order & 3, order >> 2 & 3, order >> 4 & 3, order >> 6};
            if ((1 << of[0] | 1 << of[1] | 1 << of[2] | 1 << of[3]) == 15) {
                for (int[] set : sets) {
                    for (int silent = 0; silent < 4; silent++) {
                        bindsIn(new int[] {set[of[0]], set[of[1]], set[of[2]], set[of[3]]}, silent);
                    }
                }
            }
        }
    }

    /** CLIFFS within so far are silent; the CRY is a YES from the one that comes turned about alone. */
    private static void bindsIn(int[] places, int silent) {
        int bound = -1;
        for (int cliff = 0; cliff < 4; cliff++) {
            int far = Math.abs(places[cliff] - 50);
            if (far > silent && (bound < 0 || far < Math.abs(places[bound] - 50))) {
                bound = cliff;
            }
        }
        for (int turned = 0; turned < 4; turned++) {
            CliffJudges x = DUE.hills("word a;word b;cliff w at " + places[0] + ";cliff x at " + places[1] + " snow 1;cliff y at " + places[2]
                + " snow 2;cliff z at " + places[3] + " snow 3;man m at 50;man o at 49;" + LAW + "back long*(far>" + silent + ");turn snow=" + turned + ";");
            Due.say(x, 0, 0, 1);
            boolean yes = bound == turned;
            DUE.same("19: binds", x.binds(0), bound);
            DUE.same("25: rhyme", x.rhyme(0), bound < 0 ? -1 : yes ? 0 : 1);
            DUE.lie("25: rhyme", x, bound < 0 || yes ? new int[0] : new int[] {10});
            DUE.same("12: call", x.call(0), bound < 0 ? 0 : yes ? 2 : 1);
        }
    }
}
