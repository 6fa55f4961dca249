import java.util.List;

/** Terms 1: each limit of a text, of its TOKENS and of what it tells, and the place of each FAULT. */
public final class TextEdgesTest {
    private static final Due DUE = new Due();
    private static final String SIGNS = ";()<>=+-*/%";
    private static final List<String> KEYS = List.of("word", "loud", "cliff", "at", "snow", "man", "voice", "state", "yes", "on", "to",
        "back", "lost", "turn", "wind", "draw", "or", "and", "not", "far", "blows", "long", "behind", "chance");

    public static void main(String[] args) {
        lengthOfTheText();
        eachByteAlone();
        eachByteBehindANumber();
        eachByteBehindAWord();
        lettersOfAWord();
        digitsOfANumber();
        blanksPartTokensOrNot();
        keysAreNoNames();
        namesNextToKeys();
        namesAreBySort();
        howManyOfASort();
        howManyLinesOfOn();
        numbersThatCanBe();
        numbersNotTold();
        onceEach();
        linesOfOn();
        theFirstByItsPlace();
        atOnePlaceTheLeast();
        atTheEnd();
        DUE.close();
    }

    private static boolean isLetter(int sign) {
        return sign >= 'a' && sign <= 'z';
    }

    private static boolean isDigit(int sign) {
        return sign >= '0' && sign <= '9';
    }

    private static boolean isBlank(int sign) {
        return sign == 32 || sign == 10;
    }

    /** "HILLS are a text of at most 1,600 bytes (empty at first)": the last byte is read too. */
    private static void lengthOfTheText() {
        for (int length : new int[] {1599, 1600}) {
            String good = " ".repeat(length - 7) + "wind 3;";
            DUE.good("a text of " + length, good);
            DUE.fault("the last byte of " + length, good.substring(0, length - 1) + "#", 1, length - 1);
            DUE.fault("no byte behind " + length, good.substring(0, length - 1) + " ", 2, length);
        }
        CliffJudges x = new CliffJudges();
        DUE.same("empty at first", x.hills(), 0);
        DUE.same("an empty text has no FAULT", x.fault(0), 0);
        DUE.good("blanks alone", " ".repeat(800) + "\n".repeat(800));
    }

    /** "1 no TOKEN": what is no letter, no digit, no sign and no blank. */
    private static void eachByteAlone() {
        for (int sign = 0; sign < 256; sign++) {
            boolean token = isLetter(sign) || isDigit(sign) || SIGNS.indexOf(sign) >= 0;
            String text = String.valueOf((char) sign);
            DUE.fault("byte " + sign + " alone", text, isBlank(sign) ? 0 : token ? 2 : 1, isBlank(sign) ? -1 : 0);
        }
    }

    /** "no letter directly behind an N"; digits make it longer, all else is the next TOKEN or none. */
    private static void eachByteBehindANumber() {
        for (int sign = 0; sign < 256; sign++) {
            String text = "wind 3" + (char) sign + ";";
            if (isBlank(sign)) {
                DUE.good("byte " + sign + " behind an N", text);
            } else if (isLetter(sign)) {
                DUE.fault("a letter behind an N", text, 1, 5);
            } else if (isDigit(sign)) {
                DUE.fault("a digit behind an N", text, 4, 5);
            } else if (sign == ';') {
                DUE.fault("a line of nothing", text, 2, 7);
            } else {
                DUE.fault("byte " + sign + " behind an N", text, SIGNS.indexOf(sign) >= 0 ? 2 : 1, 6);
            }
        }
        DUE.fault("a letter directly behind an N of 4 digits", "back 9999far;", 1, 5);
        DUE.good("a sign between", "back 9999+far;");
        DUE.fault("a blank between", "back 9999 far;", 2, 10);
        DUE.good("an N directly behind a word", "cliff x at99 snow9;");
        DUE.fault("a key directly behind an N", "cliff x at 9snow 3;", 1, 11);
        DUE.fault("at the text's end", "wind 3a", 1, 5);
        DUE.fault("in a unit", "back (7x);", 1, 6);
    }

    private static void eachByteBehindAWord() {
        for (int sign = 0; sign < 256; sign++) {
            String text = "word a" + (char) sign + ";";
            if (isBlank(sign) || isLetter(sign) && sign != 't') {
                DUE.good("byte " + sign + " behind a word", text);
            } else if (sign == 't') {
                DUE.fault("at is no NAME", text, 2, 5);
            } else if (sign == ';') {
                DUE.fault("a line of nothing", text, 2, 7);
            } else {
                boolean token = isDigit(sign) || SIGNS.indexOf(sign) >= 0;
                DUE.fault("byte " + sign + " behind a word", text, token ? 2 : 1, 6);
            }
        }
    }

    /** "words (a .. z, 8 at most)"; "each is as long as can be". */
    private static void lettersOfAWord() {
        for (int letters = 1; letters <= 8; letters++) {
            DUE.good(letters + " letters", "word " + "q".repeat(letters) + ";");
        }
        for (int letters : new int[] {9, 10, 16, 17, 1000}) {
            DUE.fault(letters + " letters", "word " + "q".repeat(letters) + ";", 1, 5);
        }
        DUE.fault("9 letters at the text's end", "word " + "q".repeat(9), 1, 5);
        DUE.fault("9 letters that begin as a key", "wordaaaaa;", 1, 0);
        DUE.fault("a key and one letter more", "worda;", 2, 0);
        DUE.fault("9 letters where a word can't stand", "wind abcdefghi;", 1, 5);
        DUE.good("a and z", "word a;word z;word az;word za;word zzzzzzzz;word aaaaaaaa;");
        DUE.good("8 letters, the last one another", "word abcdefgh;word abcdefgi;word bbcdefgh;");
        DUE.fault("8 letters told already", "word abcdefgh;word abcdefgh;", 3, 19);
        DUE.good("one letter more or less is another NAME", "word a;word aa;word aaa;word ab;word b;word ba;");
    }

    /** "N (1 to 4 digits)". */
    private static void digitsOfANumber() {
        for (String number : new String[] {"0", "9", "00", "09", "000", "009", "0000", "0009"}) {
            DUE.good("digits of " + number, "wind " + number + ";");
            DUE.same("wind " + number, DUE.hills("wind " + number + ";").about(5), Integer.parseInt(number));
        }
        for (String number : new String[] {"00000", "00009", "10000", "99999", "0".repeat(20), "4294967296", "2147483648"}) {
            DUE.fault("digits of " + number, "wind " + number + ";", 1, 5);
            DUE.fault("digits in an e", "back " + number + ";", 1, 5);
        }
        DUE.fault("5 digits at the text's end", "wind 00000", 1, 5);
        DUE.good("9999 is an N", "back 9999;");
        DUE.fault("two N", "wind 1 2;", 2, 7);
    }

    /** "blanks (32, 10) part them or not". */
    private static void blanksPartTokensOrNot() {
        String close = "word a loud3;cliff c at1 snow2;back(1)+2*far;lost not(1)and 0;wind7;draw8;";
        DUE.good("no more blanks than there must be", close);
        DUE.good("lines of 10", close.replace(' ', '\n'));
        DUE.good("many blanks", "\n \n" + close.replace(" ", " \n ").replace(";", " ; \n").replace("(", " ( "));
        DUE.fault("a blank within a word", "wo rd a;", 2, 0);
        DUE.fault("a blank within a NAME", "word a b;", 2, 7);
        DUE.fault("9 is no blank", "word\ta;", 1, 4);
        DUE.fault("13 is no blank", "wind 3;\r\n", 1, 7);
        DUE.fault("0 is no blank", "wind 3;\0", 1, 7);
        DUE.fault("160 is no blank", "wind 3;\u00a0", 1, 7);
    }

    /** "Words that stand for themselves here are no NAMES." */
    private static void keysAreNoNames() {
        String ahead = "word a;state s;";
        String[] lines = {"word ", "cliff ", "man ", "state ", "on ", "on s ", "on s a to "};
        for (String key : KEYS) {
            for (String line : lines) {
                DUE.fault(key + " as a NAME", ahead + line + key + " ;", 2, ahead.length() + line.length());
            }
        }
    }

    private static void namesNextToKeys() {
        for (String key : KEYS) {
            String shorter = key.substring(0, key.length() - 1);
            DUE.good("next to " + key, "word " + key + "z;cliff " + key + "z at 1;man z" + key + " at 1;state " + shorter + ";");
        }
        DUE.good("the terms' own words", "word e;word n;word name;word hills;word line;word term;word unit;word sum;");
    }

    private static void namesAreBySort() {
        DUE.good("one NAME for each sort", "word e;cliff e at 1;man e at 1;state e;on e e to e;");
        DUE.fault("3: a WORD", "cliff e at 1;word e;word e;", 3, 25);
        DUE.fault("3: a CLIFF", "word e;cliff e at 1;cliff e at 2;", 3, 26);
        DUE.fault("3: a MAN", "word e;man e at 1;man e at 2;", 3, 22);
        DUE.fault("3: a STATE", "word e;state e;state e yes;", 3, 21);
        DUE.fault("3: the first of many", Due.many(8, "word #;").replace("h", "a"), 3, 54);
        DUE.fault("5: a WORD is no STATE", "word e;on e e to e;", 5, 10);
        DUE.fault("5: a STATE is no WORD", "state e;on e e to e;", 5, 13);
        DUE.fault("5: a CLIFF, a MAN are no STATES", "cliff e at 1;man e at 1;on e e to e;", 5, 27);
    }

    /** "At most 8 WORDS, 4 CLIFFS, 4 MEN, 6 STATES"; "one of a sort too many: at the line's first word". */
    private static void howManyOfASort() {
        String[] lines = {"word #;", "cliff # at 1;", "man # at 1;", "state #;"};
        int[] most = {8, 4, 4, 6};
        int[] about = {1, 0, 2, 3};
        for (int sort = 0; sort < 4; sort++) {
            String line = lines[sort];
            String full = Due.many(most[sort], line);
            for (int n = 0; n <= most[sort]; n++) {
                DUE.same(n + " of " + line, DUE.hills(Due.many(n, line)).about(about[sort]), n);
            }
            DUE.fault("one more of " + line, Due.many(most[sort] + 1, line), 2, full.length());
            DUE.fault("one more of " + line + ", alone", full + "\n" + line.substring(0, line.indexOf(' ')), 2, full.length() + 1);
            DUE.fault("one more of " + line + ", told already", full + line.replace('#', 'a'), 2, full.length());
            DUE.fault("one more of " + line + ", no NAME", full + line, 2, full.length());
            for (int other = 0; other < 4; other++) {
                if (other != sort) {
                    DUE.good("full of " + line + ", another sort", full + Due.many(most[other], lines[other]));
                }
            }
        }
    }

    private static String thirtyOns() {
        return Due.many(8, "word #;") + Due.many(6, "state #;") + Due.many(8, "on a # to b;") + Due.many(8, "on b # to c;")
            + Due.many(8, "on c # to d;") + Due.many(6, "on f # to a;");
    }

    /** "30 lines of on". */
    private static void howManyLinesOfOn() {
        String thirty = thirtyOns();
        String less = thirty.substring(0, thirty.length() - "on f f to a;".length());
        DUE.same("29 lines of on", DUE.hills(less).about(4), 29);
        CliffJudges x = DUE.hills(thirty);
        DUE.same("30 lines of on", x.about(4), 30);
        DUE.same("the 30th holds", x.leads(5, 5), 0);
        DUE.same("where no on is told, one stays", x.leads(5, 6), 5);
        DUE.same("the last STATE and WORD", x.leads(5, 7), 5);
        DUE.fault("31 lines of on", thirty + "on f g to a;", 2, thirty.length());
        DUE.fault("31, told already", thirty + "on f f to a;", 2, thirty.length());
        DUE.fault("31, what nothing has", thirty + "on zz zz to zz;", 2, thirty.length());
        DUE.good("30 lines of on, another line", thirty + "wind 3;");
    }

    /** "4 a number that can't be": at most, one below and one above, with zeros ahead. */
    private static void numbersThatCanBe() {
        String[] lines = {"word a loud #;", "cliff a at #;", "cliff a at 1 snow #;", "man a at #;", "man a at 1 voice #;", "wind #;", "draw #;"};
        int[] most = {9, 99, 9, 99, 9, 9, 999};
        for (int i = 0; i < lines.length; i++) {
            String line = lines[i];
            int place = line.indexOf('#');
            for (int number : new int[] {0, 1, most[i] - 1, most[i]}) {
                DUE.good("number " + number, line.replace("#", "" + number));
                DUE.good("number with zeros", line.replace("#", String.format("%04d", number)));
            }
            for (int number : new int[] {most[i] + 1, most[i] + 2, 9999}) {
                DUE.fault("number " + number, line.replace("#", "" + number), 4, place);
                DUE.fault("number with zeros", line.replace("#", String.format("%04d", number)), 4, place);
            }
            DUE.fault("no number", line.replace("#", ""), 2, place);
            DUE.fault("a word for a number", line.replace("#", "a"), 2, place);
            DUE.fault("below 0", line.replace("#", "-1"), 2, place);
        }
        CliffJudges x = DUE.hills("cliff a at 0 snow 0;cliff b at 99 snow 9;man a at 0 voice 0;man b at 99 voice 9;wind 9;draw 999;");
        DUE.same("the least place of a CLIFF", x.cliff(0, 0) * 10 + x.cliff(0, 1), 0);
        DUE.same("the farthest place of a CLIFF", x.cliff(1, 0) * 10 + x.cliff(1, 1), 999);
        DUE.same("the least place of a MAN", x.man(0, 0) * 10 + x.man(0, 1), 0);
        DUE.same("the farthest place of a MAN", x.man(1, 0) * 10 + x.man(1, 1), 999);
        DUE.same("the most wind and draw", x.about(5) * 1000 + x.about(6), 9999);
    }

    /** "0 if not told": not what an earlier text told there. */
    private static void numbersNotTold() {
        String all = "word a loud 9;cliff c at 9 snow 9;man m at 9 voice 9;state s yes;state t;on s a to t;back 9;lost loud<9;turn 1;wind 9;draw 9;";
        CliffJudges x = DUE.hills(all);
        DUE.same("told twice", Due.tell(x, all), 1);
        DUE.same("told anew", Due.tell(x, "word a;word b;cliff c at 9;man m at 9;state s;state t;"), 1);
        DUE.same("snow", x.cliff(0, 1), 0);
        DUE.same("voice", x.man(0, 1), 0);
        DUE.same("wind", x.about(5), 0);
        DUE.same("draw", x.about(6), 0);
        DUE.same("on", x.leads(0, 0) * 10 + x.about(4), 0);
        DUE.same("units", x.about(15), 0);
        Due.say(x, 0, 1, 0, 0, 1);
        DUE.same("back, lost", x.echo(0, 0), 3);
        DUE.lie("turn", x, 0, 0, 1);
        DUE.same("yes", x.call(0), 1);
        DUE.same("one e in place of another", Due.tell(x, "word a;word b;cliff c at 9;man m at 9;back 2;turn 0;"), 1);
        Due.say(x, 0, 1, 0, 1);
        DUE.same("back of the new text", x.echo(0, 0), 2);
        DUE.lie("turn of the new text", x, 0, 1);
        DUE.same("told again with lost", Due.tell(x, "word a;cliff c at 9;man m at 9;lost loud;"), 1);
        Due.say(x, 0, 0);
        DUE.same("loud is 0 if it is not told", x.echo(0, 0), 1);
    }

    /** "back, lost, turn, wind, draw once each": "a second time: at the line's first word". */
    private static void onceEach() {
        String[] lines = {"back 1;", "lost 1;", "turn 1;", "wind 1;", "draw 1;"};
        for (String line : lines) {
            String key = line.substring(0, 4);
            DUE.good("once", line);
            DUE.fault("twice", line + line, 2, line.length());
            DUE.fault("twice, alone", line + key, 2, line.length());
            DUE.fault("twice, no TOKEN behind", line + key + "#", 2, line.length());
            DUE.fault("twice, a number that can't be", line + key + " 9999;", 2, line.length());
            for (String other : lines) {
                if (!other.equals(line)) {
                    DUE.good("two of them", line + other);
                    DUE.fault("again behind another", line + other + line, 2, line.length() + other.length());
                }
            }
        }
        DUE.good("all of them, backwards", "draw 0;wind 0;turn 0;lost 0;back 0;");
        DUE.fault("wind 0 was told too", "wind 0;wind 0;", 2, 7);
        DUE.fault("draw 0 was told too", "draw 0;draw 0;", 2, 7);
        CliffJudges x = DUE.hills("back 1;lost 1;turn 1;wind 1;draw 1;");
        DUE.same("a new text may tell them again", Due.tell(x, "draw 2;wind 2;turn 2;lost 2;back 2;"), 0);
    }

    /** "a STATE, a WORD, a STATE, all told ahead, each STATE with each WORD once". */
    private static void linesOfOn() {
        DUE.fault("a STATE told behind", "word a;state s;on t a to s;state t;", 5, 18);
        DUE.fault("a WORD told behind", "word a;state s;on s b to s;word b;", 5, 20);
        DUE.fault("a STATE to come to told behind", "word a;state s;on s a to t;state t;", 5, 25);
        DUE.good("told directly ahead", "word a;state s;state t;on s a to t;on t a to s;");
        DUE.good("told between", "word a;state s;on s a to s;word b;on s b to s;state t;on t a to t;on t b to s;");
        DUE.fault("twice, to the same STATE", "word a;state s;on s a to s;on s a to s;", 3, 32);
        DUE.fault("twice, to another STATE", "word a;state s;state t;on s a to s;on s a to t;", 3, 40);
        DUE.fault("twice, not one behind the other", "word a;state s;state t;on s a to s;on t a to t;on s a to t;", 3, 52);
        DUE.fault("twice, what nothing has behind it", "word a;state s;on s a to s;on s a to z;", 3, 32);
        DUE.fault("twice, no more", "word a;state s;on s a to s;on s a", 3, 32);
        DUE.fault("no to", "word a;state s;on s a s;", 2, 22);
        DUE.fault("no STATE behind to", "word a;state s;on s a to;", 2, 24);
        DUE.fault("a second time yes", "state s yes yes;", 2, 12);
        CliffJudges x = DUE.hills("word a;state s;state t;on t a to s;");
        DUE.same("an on to the first STATE", x.leads(1, 0), 0);
        DUE.same("a new text tells ons anew", Due.tell(x, "word a;state s;state t;on t a to t;on s a to t;"), 0);
        DUE.same("each by the new text", x.leads(0, 0) * 10 + x.leads(1, 0), 11);
    }

    /** "FAULTS, the first by its place": the one ahead counts, of whatever sort the later one is. */
    private static void theFirstByItsPlace() {
        String ahead = "word a;state s;";
        String[] faults = {"#", ";", "word a;", "wind 10;", "on z a to s;"};
        int[] places = {0, 0, 5, 5, 3};
        for (int first = 0; first < faults.length; first++) {
            for (int second = 0; second < faults.length; second++) {
                String text = ahead + faults[first] + " " + faults[second];
                DUE.fault("the first of two", text, first + 1, ahead.length() + places[first]);
            }
            for (int blanks = 0; blanks < 3; blanks++) {
                String text = " ".repeat(blanks) + "draw 3;" + ahead + faults[first];
                DUE.fault("bytes from 0", text, first + 1, blanks + 7 + ahead.length() + places[first]);
            }
        }
        DUE.fault("at the text's first byte", "#", 1, 0);
        DUE.fault("at the last byte that can be", " ".repeat(1599) + "#", 1, 1599);
    }

    /** "at one place the least": no TOKEN ahead of all else that is wrong there. */
    private static void atOnePlaceTheLeast() {
        DUE.fault("1 ahead of 2", "word 7a;", 1, 5);
        DUE.fault("1 ahead of 2, a line's first word", "abcdefghi", 1, 0);
        DUE.fault("1 ahead of 3", "word a;word #;", 1, 12);
        DUE.fault("1 ahead of 4", "wind 10a;", 1, 5);
        DUE.fault("1 ahead of 4, 5 digits", "cliff a at 00100;", 1, 11);
        DUE.fault("1 ahead of 5", "on abcdefghi a to s;", 1, 3);
        DUE.fault("1 ahead of 2, a unit too many", "back 1" + "+1".repeat(29) + "+#;", 1, 65);
        DUE.fault("1 ahead of 2, too deep", "back (((((((#", 1, 12);
        DUE.fault("2 ahead of 5", "on word a to s;", 2, 3);
        DUE.fault("2, not 4: no NAME", "word 10;", 2, 5);
        DUE.fault("2, not 4: no number can stand there", "state s 9999;", 2, 8);
    }

    /** "the end: the text's length": a text cut behind each of its TOKENS, blanks behind it. */
    private static void atTheEnd() {
        String[] tokens = ("word a loud 3 ; cliff c at 5 snow 2 ; man m at 7 voice 1 ; state s yes ; on s a to s ; back ( 1 + far ) * 2 < 3 or "
            + "not 4 and 5 ; lost 1 ; turn 1 ; wind 3 ; draw 4 ;").split(" ");
        for (String behind : new String[] {"", " ", "\n \n"}) {
            StringBuilder text = new StringBuilder();
            for (String token : tokens) {
                text.append(text.length() == 0 ? "" : " ").append(token);
                String cut = text + behind;
                if (token.equals(";")) {
                    DUE.good("cut behind a line", cut);
                } else {
                    DUE.fault("cut within a line", cut, 2, cut.length());
                }
            }
        }
        DUE.fault("at the most that can be", " ".repeat(1594) + "wind 3", 2, 1600);
    }
}
