/** Promises 32 to 36, 39: SOUNDS, the TIME, STOOD, ASK and what is told about all, at their limits. */
public final class SoundEdgesTest {
    private static final Due DUE = new Due();
    private static final int EVER = Integer.MAX_VALUE;
    private static final int NEVER = Integer.MIN_VALUE;

    public static void main(String[] args) {
        soundsThatCanBe();
        soundsThatCannotBe();
        thirtySounds();
        untelling();
        laterTimes();
        theTimeStays();
        toldAtOrBefore();
        untoldAtOrBefore();
        toldAndUntoldAtOnce();
        placesWhereOneStood();
        asTold();
        stoodThatCannotBe();
        questionsAtTheirLimits();
        likeQuestions();
        placesLeft();
        questionsThatCannotBe();
        aboutThatCannotBe();
        aboutTheFullest();
        DUE.close();
    }

    /** Promise 32: "A SOUND (n 1 .. 10, 0 .. n came): its number". */
    private static void soundsThatCanBe() {
        CliffJudges x = DUE.hills("cliff w at 0;cliff x at 10;cliff y at 20;cliff z at 30;");
        int number = 0;
        for (int n : new int[] {1, 2, 9, 10}) {
            for (int came : new int[] {0, 1, n - 1, n}) {
                DUE.same("32: n " + n + ", " + came + " came", x.sound(number % 4, n, came), number);
                number++;
            }
        }
        DUE.same("39: so many", x.about(12), number);
    }

    /** "NONE, doing nothing, if one can't be". */
    private static void soundsThatCannotBe() {
        CliffJudges x = DUE.hills("cliff w at 0;cliff x at 10;cliff y at 20;");
        DUE.outside("32: no CLIFF", cliff -> x.sound(cliff, 1, 1), 0, 2);
        DUE.outside("32: n 1 .. 10", n -> x.sound(0, n, 0), 1, 10);
        for (int n = 1; n <= 10; n++) {
            int of = n;
            DUE.outside("32: came 0 .. " + n, came -> x.sound(0, of, came), 0, n);
        }
        DUE.same("32: 0 of 0", x.sound(0, 0, 0), -1);
        DUE.same("32: 11 of 11", x.sound(0, 11, 11), -1);
        DUE.same("32: nothing was done", x.about(12), 0);
        DUE.same("32: all places are left", x.stood(0, 0), 100);
        DUE.outside("32: no CLIFFS", cliff -> new CliffJudges().sound(cliff, 1, 1), 0, -1);
        DUE.same("32: no WORDS are needed", x.sound(2, 10, 3), 0);
    }

    /** "or there are 30": those that were UNTOLD are there too. */
    private static void thirtySounds() {
        CliffJudges x = DUE.hills("cliff x at 0;");
        for (int i = 0; i < 30; i++) {
            DUE.same("32: number", x.sound(0, 3, 3), i);
        }
        DUE.same("32: there are 30", x.sound(0, 3, 3), -1);
        DUE.same("32: nothing was done", x.about(12), 30);
        DUE.yes("33: the last one", x.untell(29));
        DUE.yes("33: the first one", x.untell(0));
        DUE.same("32: there are 30 still", x.sound(0, 3, 3), -1);
        DUE.same("39: there are 30 still", x.about(12), 30);
        DUE.same("4: none then", Due.tell(x, "cliff x at 0;") + x.about(12), 1);
        DUE.same("32: from 0 on again", x.sound(0, 3, 3), 0);
        DUE.yes("33: it is another one, not UNTOLD", x.untell(0));
    }

    /** Promise 33: "true; false if it is so already, or there is none such". */
    private static void untelling() {
        CliffJudges x = DUE.hills("cliff x at 0;");
        int[] none = {NEVER, -1, 0, 1, 30, EVER};
        for (int sound : none) {
            DUE.no("33: there is none such: " + sound, x.untell(sound));
        }
        x.sound(0, 3, 3);
        x.sound(0, 3, 2);
        DUE.no("33: none such", x.untell(2) || x.untell(-1) || x.untell(EVER) || x.untell(NEVER));
        DUE.same("33: nothing was done", x.stood(0, 0), 0);
        DUE.yes("33: the second", x.untell(1));
        DUE.no("33: it is so already", x.untell(1));
        x.later(5);
        DUE.no("33: it is so already, later", x.untell(1));
        DUE.same("33: at the TIME when it was", x.stood(0, 0), 100);
        DUE.yes("33: the first", x.untell(0));
        DUE.no("33: so are both", x.untell(0) || x.untell(1));
    }

    /** Promise 34: "So much later (0 .. 1000): the TIME; NONE, doing nothing, for another number, or if above 100,000". */
    private static void laterTimes() {
        CliffJudges x = new CliffJudges();
        DUE.same("34: 0 at first", x.about(13), 0);
        DUE.same("34: 0", x.later(0), 0);
        DUE.outside("34: another number", x::later, 0, 1000);
        DUE.same("34: nothing was done", x.about(13), 0);
        DUE.same("34: 1", x.later(1), 1);
        DUE.same("34: 999", x.later(999), 1000);
        for (int i = 2; i < 100; i++) {
            DUE.same("34: 1000", x.later(1000), 1000 * i);
        }
        DUE.same("34: 99,000 and 999", x.later(999), 99999);
        DUE.same("34: it would be 100,001", x.later(2), -1);
        DUE.same("34: nothing was done", x.about(13), 99999);
        DUE.same("34: it would be 100,999", x.later(1000), -1);
        DUE.same("34: 100,000", x.later(1), 100000);
        DUE.same("34: none later", x.later(1), -1);
        DUE.same("34: 0 later", x.later(0), 100000);
        DUE.outside("34: another number", x::later, 0, 0);
        DUE.same("34: the TIME", x.about(13), 100000);
    }

    /** "the TIME stays": by hills(), by ACTS undone, by BOXES. */
    private static void theTimeStays() {
        CliffJudges x = DUE.hills("cliff x at 0;");
        x.image(0);
        x.noon();
        x.later(7);
        x.undo();
        DUE.same("34: UNDO", x.about(13), 7);
        x.back(0);
        DUE.same("34: back", x.about(13), 7);
        Due.tell(x, "cliff x at 5;");
        DUE.same("34: hills", x.about(13), 7);
        Due.tell(x, "#");
        DUE.same("34: a FAULT", x.about(13), 7);
        x.sound(0, 3, 0);
        DUE.same("35: TOLD at the TIME that stayed", x.stood(0, 6) * 10 + x.stood(0, 7), 1000);
    }

    /** "As known at k those count that were TOLD at k or before". */
    private static void toldAtOrBefore() {
        CliffJudges x = DUE.hills("cliff x at 0;back far;");
        x.later(10);
        x.sound(0, 10, 4);
        x.later(1);
        int[] ks = {NEVER, -1, 0, 9, 10, 11, 12, EVER};
        int[] due = {100, 100, 100, 100, 1, 1, 1, 1};
        for (int i = 0; i < ks.length; i++) {
            DUE.same("35: known at " + ks[i], x.stood(0, ks[i]), due[i]);
            DUE.same("36: known at " + ks[i], x.ask(1, ks[i]), due[i] == 1 ? 1 : 90);
        }
        CliffJudges first = DUE.hills("cliff x at 0;back far;");
        first.sound(0, 10, 4);
        DUE.same("35: TOLD at 0, known at -1", first.stood(0, -1), 100);
        DUE.same("35: TOLD at 0, known at 0", first.stood(0, 0), 1);
    }

    /** "not UNTOLD at k or before". */
    private static void untoldAtOrBefore() {
        CliffJudges x = DUE.hills("cliff x at 0;back far;");
        x.later(10);
        x.sound(0, 10, 4);
        x.later(10);
        x.untell(0);
        x.later(10);
        int[] ks = {9, 10, 11, 19, 20, 21, 30, EVER, NEVER};
        int[] due = {100, 1, 1, 1, 100, 100, 100, 100, 100};
        for (int i = 0; i < ks.length; i++) {
            DUE.same("35: UNTOLD, known at " + ks[i], x.stood(0, ks[i]), due[i]);
        }
    }

    /** "UNTOLD at a later one or the same". */
    private static void toldAndUntoldAtOnce() {
        CliffJudges x = DUE.hills("cliff x at 0;back far;");
        x.later(10);
        x.sound(0, 10, 4);
        DUE.yes("33: at the same TIME", x.untell(0));
        for (int k = 9; k <= 11; k++) {
            DUE.same("35: it never counts, at " + k, x.stood(0, k), 100);
        }
        x.sound(0, 10, 5);
        x.later(1);
        x.sound(0, 10, 6);
        DUE.same("35: 5", x.stood(1, 10), 5);
        DUE.same("35: 5 and 6 can't be", x.stood(0, 11), 0);
        x.untell(1);
        DUE.same("35: 6 alone", x.stood(1, 11), 6);
        DUE.same("35: as known before", x.stood(1, 10), 5);
    }

    /** Promise 35: "what 0: how many places, 1: the first, 2: the last one (NONE)". */
    private static void placesWhereOneStood() {
        String[] backs = {"far=0", "far=1", "far=99", "far>97", "1", "0", "far<2"};
        int[][] due = {{1, 0, 0}, {1, 1, 1}, {1, 99, 99}, {2, 98, 99}, {100, 0, 99}, {0, -1, -1}, {2, 0, 1}};
        for (int i = 0; i < backs.length; i++) {
            CliffJudges x = DUE.hills("cliff x at 0;back " + backs[i] + ";");
            DUE.same("35: no SOUNDS", x.stood(0, 0) * 100 + x.stood(1, 0) + x.stood(2, 0), 10099);
            x.sound(0, 1, 1);
            for (int what = 0; what < 3; what++) {
                DUE.same("35: " + backs[i] + " what " + what, x.stood(what, 0), due[i][what]);
            }
        }
        CliffJudges all = DUE.hills("cliff x at 0;cliff y at 99;back far/10;");
        all.sound(0, 10, 3);
        all.sound(1, 10, 6);
        // From x 30 .. 39; from y 60 .. 69 far, which is 30 .. 39 too.
        DUE.same("35: all that count are so", all.stood(0, 0) * 10000 + all.stood(1, 0) * 100 + all.stood(2, 0), 103039);
        all.sound(1, 5, 5);
        // Of 5 WORDS 5 at most come: from 50 far on.
        DUE.same("35: all at most came", all.stood(0, 0), 10);
        CliffJudges below = DUE.hills("cliff x at 0;back far-50;");
        below.sound(0, 10, 0);
        DUE.same("35: 0 at least came", below.stood(0, 0) * 100 + below.stood(2, 0), 5150);
        CliffJudges three = DUE.hills("cliff x at 0;");
        three.sound(0, 10, 3);
        DUE.same("35: 3, if back is not told", three.stood(0, 0), 100);
        three.sound(0, 2, 2);
        DUE.same("35: all of 2", three.stood(0, 0), 100);
        three.sound(0, 4, 4);
        DUE.same("35: 4 never", three.stood(0, 0), 0);
    }

    /** "by wind, snow as told in the text"; lost and turn take nothing from it. */
    private static void asTold() {
        CliffJudges x = DUE.hills("cliff x at 0 snow 2;back far*(blows=3)*(snow=2);lost 1;turn 1;wind 3;draw 397;");
        x.sound(0, 10, 4);
        DUE.same("35: as told", x.stood(1, 0), 4);
        x.noon();
        DUE.same("13: another wind, another snow", x.about(5) * 10 + x.cliff(0, 1), 3);
        DUE.same("35: as told still", x.stood(1, 0), 4);
        DUE.same("36: as told still", x.ask(0, -1) * 100 + x.ask(1, -1), 1090);
        x.sweep(0);
        DUE.same("35: as told still", x.stood(1, 0), 4);
    }

    /** "NONE for another what". */
    private static void stoodThatCannotBe() {
        CliffJudges x = DUE.hills("cliff x at 0;");
        for (int k : new int[] {NEVER, -1, 0, 1, EVER}) {
            DUE.outside("35: another what", what -> x.stood(what, k), 0, 2);
            DUE.same("35: without CLIFFS all", new CliffJudges().stood(0, k), 100);
        }
    }

    /** Promise 36: "what 0: 100 * the CLIFF and n": the last CLIFF and 10 WORDS, the first and 1. */
    private static void questionsAtTheirLimits() {
        CliffJudges last = DUE.hills("cliff w at 0 snow 1;cliff x at 0 snow 1;cliff y at 0 snow 1;cliff z at 0;back (long=10)*(snow=0)*(far<50);");
        DUE.same("36: the last CLIFF, 10 WORDS", last.ask(0, 0), 310);
        DUE.same("36: 50 at the most", last.ask(1, 0), 50);
        CliffJudges first = DUE.hills("cliff w at 0;cliff x at 0;back 1;");
        DUE.same("36: nothing to be known", first.ask(0, 0), 1);
        DUE.same("36: all are left", first.ask(1, 0), 100);
        CliffJudges most = DUE.hills("cliff x at 0;back far/10+1;");
        // Of 10 WORDS 1 .. 10 come, ten places each; of 9 those of 10 come as 9.
        DUE.same("36: 10 WORDS", most.ask(0, 0) * 100 + most.ask(1, 0), 1010);
        CliffJudges nine = DUE.hills("cliff x at 0;back far/10;");
        DUE.same("36: 9 WORDS do too", nine.ask(0, 0) * 100 + nine.ask(1, 0), 910);
    }

    /** "of like ones the first (by CLIFF, then by n)". */
    private static void likeQuestions() {
        CliffJudges x = DUE.hills("cliff w at 0 snow 1;cliff x at 0;cliff y at 0;back (snow=0)*(far<50)*(long>6);");
        DUE.same("36: the first CLIFF that tells, its first n", x.ask(0, 0), 107);
        CliffJudges by = DUE.hills("cliff w at 0;cliff x at 0 snow 1;back (far<50)*(long>9-snow*7);");
        // From x 3 WORDS would do, from w 10: CLIFF first.
        DUE.same("36: by CLIFF, then by n", by.ask(0, 0), 10);
        CliffJudges fewer = DUE.hills("cliff w at 0;cliff x at 0 snow 1;back (far<50+snow)*(long>9-snow*7);");
        DUE.same("36: one more left is no like one", fewer.ask(0, 0) * 100 + fewer.ask(1, 0), 1050);
        CliffJudges later = DUE.hills("cliff w at 0 snow 1;cliff x at 0;back (far<50+snow)*(long>9-snow*7);");
        DUE.same("36: one less is ahead", later.ask(0, 0) * 100 + later.ask(1, 0), 11050);
    }

    /** "how many places are left at the most". */
    private static void placesLeft() {
        CliffJudges x = DUE.hills("cliff x at 0;back far;");
        x.sound(0, 10, 7);
        DUE.same("36: one place: nothing more to be known", x.ask(0, 0) * 100 + x.ask(1, 0), 101);
        CliffJudges two = DUE.hills("cliff x at 50;back far;");
        two.sound(0, 10, 7);
        DUE.same("36: two that one CLIFF can't part", two.ask(0, 0) * 100 + two.ask(1, 0), 102);
        CliffJudges part = DUE.hills("cliff x at 50;cliff y at 42;back far;");
        part.sound(0, 10, 7);
        // 43 and 57: from y 1 and 15 far, of 2 WORDS 1 and 2 come.
        DUE.same("36: two that the other parts", part.ask(0, 0) * 100 + part.ask(1, 0), 10201);
        part.later(1);
        part.untell(0);
        DUE.same("36: as known before", part.ask(1, 0), 1);
        DUE.yes("36: as known now", part.ask(1, 1) > 50);
    }

    /** "NONE without CLIFFS, if no place can be, or for another what". */
    private static void questionsThatCannotBe() {
        CliffJudges none = DUE.hills("word a;man m at 1;back far;");
        for (int what = -1; what <= 2; what++) {
            DUE.same("36: without CLIFFS", none.ask(what, 0), -1);
            DUE.same("36: of empty HILLS", new CliffJudges().ask(what, 0), -1);
        }
        CliffJudges x = DUE.hills("cliff x at 0;back far;");
        DUE.outside("36: another what", what -> x.ask(what, 0), 0, 1);
        x.sound(0, 10, 3);
        x.later(1);
        x.sound(0, 10, 4);
        DUE.same("36: no place can be", x.ask(0, 1), -1);
        DUE.same("36: no place can be", x.ask(1, 1), -1);
        DUE.outside("36: another what", what -> x.ask(what, 1), 0, 1);
        DUE.same("36: one could be before", x.ask(1, 0), 1);
    }

    /** Promise 39: "NONE for another what". */
    private static void aboutThatCannotBe() {
        CliffJudges x = new CliffJudges();
        DUE.outside("39: another what", x::about, 0, 16);
        DUE.outside("39: another what", DUE.hills("cliff x at 1;")::about, 0, 16);
    }

    /** Promise 39: each number as great as it can be. */
    private static void aboutTheFullest() {
        String ones = "1" + "+1".repeat(29);
        CliffJudges x = DUE.hills(Due.many(8, "word #;") + Due.many(4, "cliff # at 1;") + Due.many(4, "man # at 1;") + Due.many(6, "state #;")
            + Due.many(8, "on a # to b;") + Due.many(8, "on b # to c;") + Due.many(8, "on c # to d;") + Due.many(6, "on f # to a;")
            + "wind 9;draw 999;back " + ones + ";turn " + ones + ";");
        for (int i = 0; i < 10; i++) {
            x.say(0, 7);
            x.say(1, 7);
        }
        for (int i = 0; i < 20; i++) {
            x.call(0);
        }
        for (int i = 0; i < 30; i++) {
            x.sound(3, 10, 10);
        }
        for (int i = 0; i < 100; i++) {
            x.later(1000);
        }
        for (int i = 0; i < 80; i++) {
            x.feed(0, 0, 0, 0, 0);
        }
        x.echo(0, 0);
        int[] due = {4, 8, 4, 6, 30, 9, 999, 0, 10, 10, 40, 0, 30, 100000, 1600, 60, 10};
        for (int what = 0; what < due.length; what++) {
            DUE.same("39: what " + what, x.about(what), due[what]);
        }
        for (int i = 0; i < 40; i++) {
            x.undo();
        }
        int[] undone = {4, 8, 4, 6, 30, 9, 999, 0, 0, 0, 0, 40, 30, 100000, 1600, 60, 10};
        for (int what = 0; what < undone.length; what++) {
            DUE.same("39: undone, what " + what, x.about(what), undone[what]);
        }
    }
}
