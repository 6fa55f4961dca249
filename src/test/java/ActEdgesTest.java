/** Promises 1 to 16, 37, 38: the TAPE, what is, ACTS, UNDO, REDO and BOXES at their limits. */
public final class ActEdgesTest {
    private static final Due DUE = new Due();
    // All that may be told of each sort; STATES lead on by WORD a, in a ring.
    private static final String FULL = Due.many(8, "word # loud 9;") + Due.many(4, "cliff # at 99 snow 8;") + Due.many(4, "man # at 99 voice 9;")
        + Due.many(5, "state #;") + "state f yes;on a a to b;on b a to c;on c a to d;on d a to e;on e a to f;on f a to a;wind 9;draw 999;";

    public static void main(String[] args) {
        aNewObject();
        feeding();
        ending();
        bytesInTheirOrder();
        tellingHills();
        telling();
        cliffs();
        men();
        leading();
        saying();
        unsaying();
        whatWasSaid();
        calling();
        noonsOfEachSeed();
        snowOfNoons();
        howManyNoons();
        sweeping();
        actsThatAreKept();
        redoing();
        actsInTheirOrder();
        boxes();
        boxesAndActs();
        DUE.close();
    }

    /** Promise 1: "Empty HILLS." */
    private static void aNewObject() {
        CliffJudges x = new CliffJudges();
        for (int what = 0; what <= 16; what++) {
            DUE.same("1: about " + what, x.about(what), 0);
        }
        DUE.same("1: no CLIFF", x.cliff(0, 0), -1);
        DUE.same("1: no MAN", x.man(0, 0), -1);
        DUE.same("1: no STATE, no WORD", x.leads(0, 0), -1);
        DUE.same("1: nothing can be said", x.say(0, 0), -1);
        DUE.same("1: nothing lies there", x.lies(0), -1);
        DUE.no("1: no ACTS", x.undo() || x.redo());
        DUE.same("1: BOXES are empty", x.back(0) + x.back(1) + x.back(2), -3);
        DUE.same("1: from no place", x.yeas(9, 0), 0);
        DUE.same("1: a NOON can be", x.noon(), 1);
        DUE.yes("1: and be undone", x.undo());
        DUE.same("1: as it was", x.about(5) + x.about(6) + x.about(7), 0);
    }

    private static CliffJudges taped(int bytes) {
        CliffJudges x = new CliffJudges();
        for (int i = 0; i < (bytes + 19) / 20; i++) {
            x.feed(0, 0, 0, 0, 0);
        }
        DUE.same("3: end", x.end(bytes), bytes);
        return x;
    }

    /** Promise 2: "how many there are; NONE, and nothing comes, if there would be more than 1,600". */
    private static void feeding() {
        for (int bytes : new int[] {0, 1, 1559, 1560, 1579, 1580}) {
            CliffJudges x = taped(bytes);
            DUE.same("2: behind " + bytes, x.feed(1, 2, 3, 4, 5), bytes + 20);
            DUE.same("2: there are", x.about(14), bytes + 20);
        }
        for (int bytes : new int[] {1581, 1590, 1599, 1600}) {
            CliffJudges x = taped(bytes);
            DUE.same("2: behind " + bytes, x.feed(1, 2, 3, 4, 5), -1);
            DUE.same("2: nothing came", x.about(14), bytes);
            DUE.same("2: again", x.feed(1, 2, 3, 4, 5), -1);
        }
        CliffJudges x = new CliffJudges();
        for (int i = 1; i <= 80; i++) {
            DUE.same("2: feed " + i, x.feed(0x20202020, 0x20202020, 0x20202020, 0x20202020, 0x20202020), 20 * i);
        }
        DUE.same("2: feed 81", x.feed(-1, -1, -1, -1, -1), -1);
        DUE.same("2: nothing came over what was there", x.hills(), 0);
        DUE.same("2: from the start again", x.feed(0, 0, 0, 0, 0), 20);
    }

    /** Promise 3: "n; NONE, doing nothing, if it has not so many, or n is below 0". */
    private static void ending() {
        for (int bytes : new int[] {0, 1, 19, 20, 1599, 1600}) {
            CliffJudges x = taped(bytes);
            DUE.outside("3: end, of " + bytes, x::end, 0, bytes);
            DUE.same("3: nothing was done", x.about(14), bytes);
            DUE.same("3: all", x.end(bytes), bytes);
            if (bytes > 0) {
                DUE.same("3: one less", x.end(bytes - 1), bytes - 1);
                DUE.same("3: it has no more", x.end(bytes), -1);
            }
            DUE.same("3: none", x.end(0), 0);
            DUE.same("3: it has none", x.end(1), -1);
        }
        CliffJudges x = new CliffJudges();
        Due.feed(x, "wind 3;draw 5;#");
        x.end(16);
        DUE.same("3: more than it has", x.about(14), 15);
        x.end(7);
        Due.feed(x, "draw 8;");
        DUE.same("3: what comes then comes behind n", x.hills(), 0);
        DUE.same("3: what was behind is gone", x.about(5) * 10 + x.about(6), 38);
        String[] cut = {"word a|b;", "wind 7|7;", "wind 7|a;", "wind| 7;", "wind 7|;"};
        for (String text : cut) {
            Due.feed(x, text.replace("|", ""));
            x.end(text.indexOf('|'));
            DUE.same("3: what was cut off is not read", x.hills(), -1);
            DUE.same("3: its FAULT is at the end", x.fault(0) * 100 + x.fault(1), 200 + text.indexOf('|'));
        }
    }

    /** Promise 2: "of each number the highest first"; bytes of 128 and more are bytes too. */
    private static void bytesInTheirOrder() {
        CliffJudges x = new CliffJudges();
        x.feed(0x77696e64, 0x20373b64, 0x72617720, 0x3132333b, 0x20200a0a);
        DUE.same("2: the highest first", x.hills(), 0);
        DUE.same("2: wind 7;draw 123;", x.about(5) * 1000 + x.about(6), 7123);
        for (int i = 0; i < 20; i++) {
            int[] row = {0x20202020, 0x20202020, 0x20202020, 0x20202020, 0x20202020};
            row[i / 4] ^= 0xa0 << 24 - i % 4 * 8;
            x.feed(row[0], row[1], row[2], row[3], row[4]);
            DUE.same("2: byte 128 at " + i, x.hills(), -1);
            DUE.same("2: its place", x.fault(0) * 100 + x.fault(1), 100 + i);
        }
    }

    /** Promise 4: "how many CLIFFS; NONE: a FAULT (all stays)". */
    private static void tellingHills() {
        for (int n = 0; n <= 4; n++) {
            DUE.same("4: CLIFFS", Due.tell(new CliffJudges(), Due.many(n, "cliff # at 1;")), n);
        }
        DUE.same("4: an empty TAPE", new CliffJudges().hills(), 0);
        CliffJudges x = DUE.hills(FULL);
        DUE.same("4: empty then", x.about(14), 0);
        DUE.same("4: a FAULT", Due.tell(x, Due.many(5, "cliff # at 1;")), -1);
        DUE.same("4: empty behind a FAULT too", x.about(14), 0);
        DUE.same("4: the HILLS stay", x.about(0) * 1000 + x.about(1) * 100 + x.about(3) * 10 + x.about(2), 4864);
        DUE.same("4: empty HILLS", x.hills(), 0);
        DUE.same("4: nothing is told then", x.about(0) + x.about(1) + x.about(2) + x.about(3) + x.about(4) + x.about(5) + x.about(6), 0);
        DUE.same("4: no CLIFF", x.cliff(0, 0), -1);
        whatIsEmptyThen();
    }

    /** "CRIES are empty, no ACTS are kept, SOUNDS are none, nothing lies there, BOXES are empty then; the TIME stays". */
    private static void whatIsEmptyThen() {
        CliffJudges x = DUE.hills(FULL);
        for (int i = 0; i < 10; i++) {
            x.say(0, 0);
            x.say(1, 7);
        }
        for (int i = 0; i < 30; i++) {
            x.sound(i % 4, 1, 1);
        }
        x.later(77);
        x.noon();
        x.call(3);
        x.undo();
        for (int box = 0; box < 3; box++) {
            x.image(box);
        }
        DUE.same("4: 3 lie there", x.echo(0, 0), 3);
        DUE.same("4: the same again", Due.tell(x, FULL), 4);
        int[] due = {4, 8, 4, 6, 6, 9, 999, 0, 0, 0, 0, 0, 0, 77, 0, 0, 0};
        for (int what = 0; what < due.length; what++) {
            DUE.same("4: about " + what, x.about(what), due[what]);
        }
        DUE.same("4: nothing was said", x.said(0, 0) + x.said(1, 9), -2);
        DUE.same("4: nothing lies there", x.lies(0), -1);
        DUE.no("4: no ACTS", x.undo() || x.redo());
        DUE.same("4: BOXES are empty", x.back(0) + x.back(1) + x.back(2), -3);
        DUE.no("4: SOUNDS are none", x.untell(0));
        DUE.same("4: the first SOUND again", x.sound(0, 1, 1), 0);
        DUE.same("4: snow as told", x.cliff(3, 1), 8);
        DUE.same("4: no VERDICTS", x.man(3, 2) + x.man(3, 3) + x.man(3, 4), 0);
    }

    /** Promise 5: "what 0: its FAULT (0), 1: its place (NONE). NONE for another what". */
    private static void telling() {
        CliffJudges x = new CliffJudges();
        DUE.same("5: no FAULT yet", x.fault(0), 0);
        DUE.same("5: no place yet", x.fault(1), -1);
        DUE.outside("5: another what", x::fault, 0, 1);
        Due.tell(x, "#");
        DUE.same("5: place 0 is a place", x.fault(0) * 10 + x.fault(1), 10);
        DUE.outside("5: another what", x::fault, 0, 1);
        Due.feed(x, ";");
        DUE.same("5: of the latest hills(), not of what was fed", x.fault(0), 1);
        DUE.same("5: a FAULT", x.hills(), -1);
        DUE.same("5: the latest", x.fault(0), 2);
        DUE.same("5: none", x.hills(), 0);
        DUE.same("5: it has no FAULT", x.fault(0), 0);
        DUE.same("5: and no place", x.fault(1), -1);
    }

    /** Promise 6: "NONE if there is none such, or for another what". */
    private static void cliffs() {
        CliffJudges x = DUE.hills(FULL);
        DUE.outside("6: no CLIFF", cliff -> x.cliff(cliff, 0), 0, 3);
        DUE.outside("6: no CLIFF", cliff -> x.cliff(cliff, 1), 0, 3);
        DUE.outside("6: another what", what -> x.cliff(0, what), 0, 1);
        DUE.same("6: the last one", x.cliff(3, 0) * 10 + x.cliff(3, 1), 998);
        CliffJudges one = DUE.hills("cliff a at 0;");
        DUE.same("6: the only one", one.cliff(0, 0) + one.cliff(0, 1), 0);
        DUE.outside("6: of one", cliff -> one.cliff(cliff, 0), 0, 0);
        DUE.outside("6: of none", cliff -> new CliffJudges().cliff(cliff, 0), 0, -1);
    }

    /** Promise 7: "NONE if there is none such, or for another what". */
    private static void men() {
        CliffJudges x = DUE.hills(FULL);
        for (int what = 0; what <= 4; what++) {
            int of = what;
            DUE.outside("7: no MAN", man -> x.man(man, of), 0, 3);
        }
        DUE.outside("7: another what", what -> x.man(0, what), 0, 4);
        DUE.same("7: the last one", x.man(3, 0) * 10 + x.man(3, 1), 999);
        CliffJudges one = DUE.hills("man a at 0;");
        DUE.same("7: the only one", one.man(0, 0) + one.man(0, 1) + one.man(0, 2) + one.man(0, 3) + one.man(0, 4), 0);
        DUE.outside("7: of one", man -> one.man(man, 0), 0, 0);
    }

    /** Promise 8: "NONE if one can't be"; where no on is told one stays. */
    private static void leading() {
        CliffJudges x = DUE.hills(FULL);
        DUE.outside("8: no STATE", state -> x.leads(state, 0), 0, 5);
        DUE.outside("8: no WORD", word -> x.leads(0, word), 0, 7);
        for (int state = 0; state < 6; state++) {
            DUE.same("8: on", x.leads(state, 0), (state + 1) % 6);
            DUE.same("8: one stays", x.leads(state, 7), state);
        }
        CliffJudges noWords = DUE.hills("state s;");
        DUE.same("8: no WORDS", noWords.leads(0, 0), -1);
        CliffJudges noStates = DUE.hills("word a;");
        DUE.same("8: no STATES", noStates.leads(0, 0), -1);
    }

    /** Promise 9: "NONE, doing nothing, if one can't be, or it has 10". */
    private static void saying() {
        CliffJudges x = DUE.hills(FULL);
        DUE.outside("9: no CRY", cry -> x.say(cry, 0), 0, 1);
        DUE.outside("9: no WORD", word -> x.say(0, word), 0, 7);
        DUE.same("9: nothing was done", x.about(8) + x.about(9) + x.about(10), 0);
        for (int cry = 0; cry < 2; cry++) {
            for (int i = 1; i <= 10; i++) {
                DUE.same("9: WORD " + i, x.say(cry, i % 8), i);
            }
            DUE.same("9: it has 10", x.say(cry, 0), -1);
            DUE.same("9: nothing was done", x.about(8 + cry), 10);
            DUE.same("9: the last one is as it was", x.said(cry, 9), 2);
        }
        DUE.same("9: no ACT, if nothing was done", x.about(10), 20);
        x.unsay(1);
        DUE.same("9: it has 9", x.say(1, 7), 10);
        DUE.same("9: the last WORD that can be", x.said(1, 9), 7);
    }

    /** Promise 10: "which; NONE, doing nothing, if there is none". */
    private static void unsaying() {
        CliffJudges x = DUE.hills(FULL);
        DUE.same("10: there is none", x.unsay(0), -1);
        DUE.same("10: nor there", x.unsay(1), -1);
        DUE.same("10: no ACT", x.about(10), 0);
        Due.say(x, 0, 7, 0);
        DUE.outside("10: no CRY", x::unsay, 0, 1);
        DUE.same("10: the other CRY has none", x.unsay(1), -1);
        DUE.same("10: nothing was done", x.about(8) * 10 + x.about(10), 22);
        DUE.same("10: WORD 0 is a WORD", x.unsay(0), 0);
        DUE.same("10: the last that is left", x.unsay(0), 7);
        DUE.same("10: none is left", x.unsay(0), -1);
        DUE.same("10: ACTS", x.about(10), 4);
    }

    /** Promise 11: "NONE if there is none such". */
    private static void whatWasSaid() {
        CliffJudges x = DUE.hills(FULL);
        DUE.outside("11: an empty CRY", i -> x.said(0, i), 0, -1);
        for (int n = 1; n <= 10; n++) {
            int last = n - 1;
            x.say(1, n % 8);
            DUE.same("11: the last of " + n, x.said(1, last), n % 8);
            DUE.outside("11: of " + n, i -> x.said(1, i), 0, last);
        }
        DUE.outside("11: no CRY", cry -> x.said(cry, 0), 0, 1);
        DUE.same("11: the other CRY", x.said(0, 0), -1);
        x.unsay(1);
        DUE.same("11: unsaid", x.said(1, 9), -1);
    }

    /** Promise 12: "NONE, doing nothing, if there is none such". */
    private static void calling() {
        CliffJudges x = DUE.hills(FULL);
        DUE.outside("12: no MAN", x::call, 0, 3);
        DUE.same("12: nothing was done", x.about(10), 0);
        DUE.same("12: an empty CRY: none", x.call(3), 0);
        DUE.same("12: is counted", x.man(3, 4) * 100 + x.man(3, 3) * 10 + x.man(3, 2), 100);
        Due.say(x, 0, 0, 0, 0);
        DUE.same("12: not", x.call(3), 1);
        DUE.same("12: is counted", x.man(3, 4) * 100 + x.man(3, 3) * 10 + x.man(3, 2), 110);
        DUE.same("12: of nobody else", x.man(2, 4) + x.man(2, 3) + x.man(2, 2), 0);
        CliffJudges yes = DUE.hills("word a;cliff x at 1;man m at 1;state s yes;");
        DUE.same("12: none, though STATE 0 is yes", yes.call(0), 0);
        yes.say(0, 0);
        DUE.same("12: YES", yes.call(0), 2);
        DUE.same("12: once each", yes.man(0, 4) * 100 + yes.man(0, 3) * 10 + yes.man(0, 2), 101);
        CliffJudges law = DUE.hills("word a;cliff x at 1;man m at 1;");
        law.say(0, 0);
        DUE.same("12: never without STATES", law.call(0), 1);
        CliffJudges none = DUE.hills("word a;man m at 1;state s yes;");
        none.say(0, 0);
        DUE.same("12: none without CLIFFS", none.call(0), 0);
        DUE.outside("12: without MEN", man -> DUE.hills("word a;").call(man), 0, -1);
    }

    /** "the SEED becomes its 137-fold and 71 more, modulo 1,000; the wind is its rest by 10", of each SEED. */
    private static void noonsOfEachSeed() {
        for (int draw = 0; draw < 1000; draw++) {
            CliffJudges x = DUE.hills("cliff x at 1;draw " + draw + ";");
            int seed = (draw * 137 + 71) % 1000;
            DUE.same("13: wind, of " + draw, x.noon(), seed % 10);
            DUE.same("13: SEED, of " + draw, x.about(6), seed);
            DUE.same("13: one more snow, of " + draw, x.cliff(0, 1), seed / 10 % 2 == 0 ? 1 : 0);
            DUE.same("13: the wind is that", x.about(5), seed % 10);
        }
    }

    /** "one more snow on all CLIFFS (9 at most)". */
    private static void snowOfNoons() {
        // 397 becomes 460, and 46 is even.
        CliffJudges x = DUE.hills("cliff a at 1 snow 7;cliff b at 2 snow 8;cliff c at 3 snow 9;cliff d at 4;man m at 1;draw 397;");
        x.noon();
        DUE.same("13: nobody called", x.man(0, 2) + x.man(0, 3) + x.man(0, 4), 0);
        DUE.same("13: 8, 9, 9, 1", x.cliff(0, 1) * 1000 + x.cliff(1, 1) * 100 + x.cliff(2, 1) * 10 + x.cliff(3, 1), 8991);
        x.undo();
        DUE.same("13: as it was", x.cliff(0, 1) * 1000 + x.cliff(1, 1) * 100 + x.cliff(2, 1) * 10 + x.cliff(3, 1), 7890);
        x.redo();
        DUE.same("13: again", x.cliff(0, 1) * 1000 + x.cliff(1, 1) * 100 + x.cliff(2, 1) * 10 + x.cliff(3, 1), 8991);
        for (int i = 0; i < 60; i++) {
            x.noon();
        }
        DUE.same("13: never more than 9", x.cliff(0, 1) * 1000 + x.cliff(1, 1) * 100 + x.cliff(2, 1) * 10 + x.cliff(3, 1), 9999);
        CliffJudges none = DUE.hills("draw 397;");
        DUE.same("13: without CLIFFS", none.noon(), 0);
        DUE.same("13: none has snow", none.cliff(0, 1), -1);
    }

    /** Promise 13: "NONE, doing nothing, behind 999 of them": past 512 calls, where the document leaves answers free. */
    private static void howManyNoons() {
        CliffJudges x = DUE.hills("cliff x at 1;");
        int seed = 0;
        for (int i = 1; i <= 999; i++) {
            seed = (seed * 137 + 71) % 1000;
            DUE.same("13: NOON " + i, x.noon(), seed % 10);
        }
        DUE.same("13: NOONS", x.about(7), 999);
        DUE.yes("13: one is undone", x.undo());
        DUE.same("13: NOON 999 again", x.noon(), seed % 10);
        DUE.yes("13: one is undone", x.undo());
        DUE.yes("13: and done again", x.redo());
        DUE.same("13: no more", x.noon(), -1);
        DUE.same("13: nothing was done", x.about(7) * 1000 + x.about(6), 999000 + seed);
        DUE.same("13: no ACT", x.about(10), 40);
        DUE.same("13: an image of them", x.image(0), 999);
    }

    /** Promise 14: "how much snow it had; NONE, doing nothing, if there is none such". */
    private static void sweeping() {
        CliffJudges x = DUE.hills("cliff a at 1 snow 9;cliff b at 1;cliff c at 1 snow 1;");
        DUE.outside("14: no CLIFF", x::sweep, 0, 2);
        DUE.same("14: nothing was done", x.about(10), 0);
        DUE.same("14: 9", x.sweep(0), 9);
        DUE.same("14: 0 is no NONE", x.sweep(1), 0);
        DUE.same("14: 1", x.sweep(2), 1);
        DUE.same("14: none is left", x.cliff(0, 1) + x.cliff(1, 1) + x.cliff(2, 1), 0);
        DUE.same("14: one without snow is an ACT too", x.sweep(0) * 10 + x.about(10), 4);
        DUE.outside("14: without CLIFFS", cliff -> new CliffJudges().sweep(cliff), 0, -1);
    }

    private static int undoAll(CliffJudges x) {
        int count = 0;
        for (int i = 0; i < 60 && x.undo(); i++) {
            count++;
        }
        return count;
    }

    private static int redoAll(CliffJudges x) {
        int count = 0;
        for (int i = 0; i < 60 && x.redo(); i++) {
            count++;
        }
        return count;
    }

    /** Promise 15: "40 at most are kept, the oldest go"; "false if there is none". */
    private static void actsThatAreKept() {
        int[] acts = {0, 1, 39, 40, 41, 42, 80, 81, 82, 83};
        for (int n : acts) {
            CliffJudges x = DUE.hills(FULL);
            for (int i = 0; i < n; i++) {
                x.noon();
            }
            int kept = Math.min(n, 40);
            DUE.same("15: kept of " + n, x.about(10), kept);
            DUE.same("16: none to redo", x.about(11), 0);
            DUE.same("15: undone of " + n, undoAll(x), kept);
            DUE.no("15: there is none", x.undo());
            DUE.same("15: NOONS that stay", x.about(7), n - kept);
            DUE.same("15: none to undo", x.about(10), 0);
            DUE.same("16: to redo", x.about(11), kept);
            DUE.same("16: redone of " + n, redoAll(x), kept);
            DUE.no("16: there is none", x.redo());
            DUE.same("16: NOONS", x.about(7), n);
            DUE.same("15: to undo again", x.about(10), kept);
        }
    }

    /** Promise 16: "REDO does that again which was taken back last (till another ACT)". */
    private static void redoing() {
        CliffJudges x = DUE.hills(FULL);
        Due.say(x, 0, 0, 1, 2, 3);
        x.undo();
        x.undo();
        x.undo();
        DUE.yes("16: the one taken back last", x.redo());
        DUE.same("16: WORD 1", x.said(0, 1) * 10 + x.about(8), 12);
        DUE.same("16: what is refused is no ACT", x.say(0, 8) + x.say(2, 0) + x.unsay(1) + x.call(4) + x.sweep(4) + x.unsay(2), -6);
        DUE.same("16: it can still be redone", x.about(11), 2);
        x.echo(0, 0);
        x.image(0);
        x.pardon(0);
        x.sound(0, 1, 1);
        x.later(1);
        DUE.same("16: nor is what is asked, kept, told", x.about(11), 2);
        DUE.yes("16: the next one", x.redo());
        DUE.same("16: WORD 2", x.said(0, 2) * 10 + x.about(8), 23);
        DUE.same("16: another ACT", x.say(1, 5), 1);
        DUE.no("16: none behind it", x.redo());
        DUE.same("16: none", x.about(11), 0);
        DUE.same("15: 4 can be undone", undoAll(x), 4);
        DUE.same("16: the 4 that were", redoAll(x), 4);
        DUE.same("16: not the one that is gone", x.about(8) * 10 + x.about(9), 31);
        keptBehindAnother();
    }

    private static void keptBehindAnother() {
        CliffJudges x = DUE.hills(FULL);
        for (int i = 0; i < 45; i++) {
            x.noon();
        }
        for (int i = 0; i < 10; i++) {
            x.undo();
        }
        DUE.same("15: 30 to undo, 10 to redo", x.about(10) * 100 + x.about(11), 3010);
        x.say(0, 0);
        DUE.same("15: 31 to undo, none to redo", x.about(10) * 100 + x.about(11), 3100);
        for (int i = 0; i < 9; i++) {
            x.say(1, 0);
        }
        DUE.same("15: 40 to undo", x.about(10), 40);
        x.say(1, 0);
        DUE.same("15: not more", x.about(10), 40);
        DUE.same("15: 40 undone", undoAll(x), 40);
        DUE.same("15: the oldest went", x.about(7) * 100 + x.about(8) * 10 + x.about(9), 600);
    }

    /** Each sort of ACT is undone and redone, its whole doing with it. */
    private static void actsInTheirOrder() {
        CliffJudges x = DUE.hills(FULL);
        String first = Seen.earnest(x);
        x.say(0, 7);
        String said = Seen.earnest(x);
        x.say(1, 3);
        String second = Seen.earnest(x);
        x.call(2);
        String called = Seen.earnest(x);
        DUE.yes("15: call", x.undo());
        DUE.same("15: call is undone", Seen.earnest(x), second);
        DUE.yes("15: say", x.undo());
        DUE.same("15: say is undone", Seen.earnest(x), said);
        DUE.yes("15: say", x.undo());
        DUE.same("15: all is undone", Seen.earnest(x), first);
        DUE.same("16: three", redoAll(x), 3);
        DUE.same("16: all is redone", Seen.earnest(x), called);
        othersInTheirOrder();
    }

    private static void othersInTheirOrder() {
        CliffJudges x = DUE.hills(FULL);
        Due.say(x, 1, 6, 5);
        String first = Seen.earnest(x);
        x.noon();
        String noon = Seen.earnest(x);
        x.sweep(3);
        String swept = Seen.earnest(x);
        x.unsay(1);
        String unsaid = Seen.earnest(x);
        DUE.yes("15: unsay", x.undo());
        DUE.same("15: unsay is undone", Seen.earnest(x), swept);
        DUE.yes("15: sweep", x.undo());
        DUE.same("15: sweep is undone", Seen.earnest(x), noon);
        DUE.yes("15: noon", x.undo());
        DUE.same("15: noon is undone", Seen.earnest(x), first);
        DUE.same("16: three", redoAll(x), 3);
        DUE.same("16: all is redone", Seen.earnest(x), unsaid);
    }

    /** Promises 37, 38: "a BOX 0 .. 2"; "NONE if there is none such"; "NONE, doing nothing, if nothing was". */
    private static void boxes() {
        CliffJudges x = DUE.hills(FULL);
        DUE.outside("37: no BOX", x::image, 0, 2);
        DUE.outside("38: no BOX", x::back, 0, 2);
        for (int box = 0; box < 3; box++) {
            DUE.same("38: nothing was kept", x.back(box), -1);
            DUE.same("37: the NOONS", x.image(box), box);
            for (int other = box + 1; other < 3; other++) {
                DUE.same("38: nor there", x.back(other), -1);
            }
            x.noon();
        }
        DUE.same("37: no ACTS", x.about(10), 3);
        for (int box = 0; box < 3; box++) {
            DUE.same("38: the NOONS", x.back(box), box);
            DUE.same("38: as it was kept", x.about(7), box);
        }
        DUE.same("38: a BOX is kept still", x.back(0), 0);
        x.say(0, 5);
        DUE.same("37: over what was kept", x.image(2), 0);
        x.unsay(0);
        DUE.same("38: the newer one", x.back(2) * 10 + x.said(0, 0), 5);
        DUE.same("38: the others stay", x.back(1) * 10 + x.about(8), 10);
        DUE.outside("37: no BOX", x::image, 0, 2);
        DUE.outside("38: no BOX", x::back, 0, 2);
        CliffJudges empty = new CliffJudges();
        DUE.same("37: of empty HILLS", empty.image(1), 0);
        empty.noon();
        DUE.same("38: as they were", empty.back(1) + empty.about(5), 0);
    }

    /** "All is as it was kept (no ACTS are kept then)". */
    private static void boxesAndActs() {
        CliffJudges x = DUE.hills(FULL);
        Due.say(x, 0, 0, 1);
        Due.say(x, 1, 2);
        x.noon();
        x.call(0);
        x.sweep(1);
        String kept = Seen.earnest(x);
        x.image(1);
        x.sound(0, 1, 1);
        x.later(9);
        x.unsay(0);
        x.unsay(1);
        x.noon();
        x.call(3);
        x.sweep(0);
        x.undo();
        x.feed(1, 2, 3, 4, 5);
        x.echo(0, 2);
        DUE.same("38: nothing was there", x.back(0), -1);
        DUE.same("38: ACTS stay behind NONE", x.about(10) * 10 + x.about(11), 101);
        DUE.same("38: back", x.back(1), 1);
        DUE.same("38: as it was kept", Seen.earnest(x), kept);
        DUE.same("38: no ACTS", x.about(10) + x.about(11), 0);
        DUE.no("38: none", x.undo() || x.redo());
        DUE.same("38: SOUNDS, the TIME and the TAPE stay", x.about(12) * 10000 + x.about(13) * 100 + x.about(14), 10920);
        x.say(0, 3);
        DUE.yes("38: ACTS from there on", x.undo());
        DUE.same("38: to where it was kept", Seen.earnest(x), kept);
        DUE.same("4: a FAULT", Due.tell(x, "#"), -1);
        DUE.same("4: BOXES stay behind a FAULT", x.back(1), 1);
    }
}
