/** Hills in which cliffs are the judges: ../shared/DOC.md says what each call promises. */
public final class CliffJudges {
    public static final int NONE = -1;

    private static final int MAX_BYTES = 1600;
    private static final int MAX_WORDS = 8;
    private static final int MAX_CLIFFS = 4;
    private static final int MAX_MEN = 4;
    private static final int MAX_STATES = 6;
    private static final int MAX_ONS = 30;
    private static final int MAX_CRY = 10;
    private static final int MAX_SOUGHT = 5;
    private static final int MAX_CHANGED = 3;
    private static final int MAX_NOONS = 999;
    private static final int MAX_SNOW = 9;
    private static final int MAX_SOUNDS = 30;
    private static final int MAX_TIME = 100000;
    private static final int PLACES = 100;
    private static final int CHANCES = 100;
    private static final int WINDS = 10;
    private static final int VOICES = 10;
    private static final int BOXES = 3;

    // The sorts of NAMES, and of what the HILLS count.
    private static final int WORDS = 0;
    private static final int CLIFFS = 1;
    private static final int MEN = 2;
    private static final int STATES = 3;

    private static final int VERDICT_NONE = 0;
    private static final int VERDICT_NOT = 1;
    private static final int VERDICT_YES = 2;

    private final Tape tape;
    private final Teller teller;
    private Hills told;
    // What hills() reads into, so that a FAULT leaves the HILLS as they were.
    private Hills spare;
    private final Moments moments;
    private final Sounds sounds;
    private final Court court;
    private final Cries cries;
    private final Rhymes rhymes;
    private final Shout shout;
    private final Shout second;
    private final Shout silence;
    private final int[] lying;
    private int lyingCount;

    public CliffJudges() {
        tape = new Tape();
        teller = new Teller(tape);
        told = new Hills();
        spare = new Hills();
        moments = new Moments();
        sounds = new Sounds();
        court = new Court();
        cries = new Cries(court);
        rhymes = new Rhymes(court);
        shout = new Shout();
        second = new Shout();
        silence = new Shout();
        lying = new int[MAX_CRY];
        lyingCount = 0;
    }

    public int feed(int a, int b, int c, int d, int e) {
        if (tape.length + 20 > MAX_BYTES) {
            return NONE;
        }
        tape.append(a);
        tape.append(b);
        tape.append(c);
        tape.append(d);
        tape.append(e);
        return tape.length;
    }

    public int end(int n) {
        if (n < 0 || n > tape.length) {
            return NONE;
        }
        tape.length = n;
        return n;
    }

    public int hills() {
        boolean good = teller.tell(spare);
        tape.length = 0;
        if (!good) {
            return NONE;
        }
        Hills old = told;
        told = spare;
        spare = old;
        moments.begin(told);
        sounds.forget();
        lyingCount = 0;
        return told.counts[CLIFFS];
    }

    public int fault(int what) {
        switch (what) {
            case 0: return teller.fault;
            case 1: return teller.place;
            default: return NONE;
        }
    }

    public int cliff(int cliff, int what) {
        if (!told.has(CLIFFS, cliff)) {
            return NONE;
        }
        switch (what) {
            case 0: return told.cliffPlace[cliff];
            case 1: return moments.now[Moments.SNOW + cliff];
            default: return NONE;
        }
    }

    public int man(int man, int what) {
        if (!told.has(MEN, man)) {
            return NONE;
        }
        switch (what) {
            case 0: return told.manPlace[man];
            case 1: return told.manVoice[man];
            case 2: return moments.verdicts(man, VERDICT_YES);
            case 3: return moments.verdicts(man, VERDICT_NOT);
            case 4: return moments.verdicts(man, VERDICT_NONE);
            default: return NONE;
        }
    }

    public int leads(int state, int word) {
        if (!told.has(STATES, state) || !told.has(WORDS, word)) {
            return NONE;
        }
        return told.next[state * MAX_WORDS + word];
    }

    public int say(int cry, int word) {
        if (!isCry(cry) || !told.has(WORDS, word) || moments.cryLength(cry) >= MAX_CRY) {
            return NONE;
        }
        moments.addWord(cry, word);
        return moments.cryLength(cry);
    }

    public int unsay(int cry) {
        if (!isCry(cry) || moments.cryLength(cry) <= 0) {
            return NONE;
        }
        return moments.dropWord(cry);
    }

    public int said(int cry, int i) {
        if (!isCry(cry) || i < 0 || i >= moments.cryLength(cry)) {
            return NONE;
        }
        return moments.wordAt(cry, i);
    }

    public int call(int man) {
        if (!told.has(MEN, man)) {
            return NONE;
        }
        prepare(man);
        int verdict = court.verdict(told, shout, silence);
        moments.countVerdict(man, verdict);
        return verdict;
    }

    public int noon() {
        if (moments.now[Moments.NOONS] >= MAX_NOONS) {
            return NONE;
        }
        moments.passNoon(told.counts[CLIFFS]);
        return moments.now[Moments.WIND];
    }

    public int sweep(int cliff) {
        if (!told.has(CLIFFS, cliff)) {
            return NONE;
        }
        return moments.clearLedge(cliff);
    }

    public boolean undo() {
        return moments.stepBack();
    }

    public boolean redo() {
        return moments.stepOn();
    }

    public int echo(int man, int cliff) {
        lyingCount = 0;
        if (!told.has(MEN, man) || !told.has(CLIFFS, cliff)) {
            return NONE;
        }
        prepare(man);
        int came = court.listen(told, shout, cliff, 0);
        layDown(court.row, came);
        return came;
    }

    public int answers(int man, int what) {
        if (!told.has(MEN, man) || what < 0 || what > 1) {
            return NONE;
        }
        prepare(man);
        int bits = 0;
        for (int cliff = 0; cliff < told.counts[CLIFFS]; cliff++) {
            int came = court.listen(told, shout, cliff, 0);
            if (what == 0 ? came > 0 : told.isYes(court.row, came)) {
                bits |= 1 << cliff;
            }
        }
        return bits;
    }

    public int binds(int man) {
        if (!told.has(MEN, man)) {
            return NONE;
        }
        prepare(man);
        court.verdict(told, shout, silence);
        return court.bound;
    }

    public int pardon(int man) {
        lyingCount = 0;
        if (!told.has(MEN, man) || told.counts[CLIFFS] == 0) {
            return NONE;
        }
        prepare(man);
        for (int n = 1; n <= MAX_SOUGHT; n++) {
            if (cries.pardonsOf(told, shout, n, true) > 0) {
                layDown(cries.cry, n);
                return n;
            }
        }
        return NONE;
    }

    public int pardons(int man, int n) {
        if (!told.has(MEN, man) || told.counts[CLIFFS] == 0 || !isSought(n)) {
            return NONE;
        }
        prepare(man);
        return cries.pardonsOf(told, shout, n, false);
    }

    public int ahead(int man, int cliff, int n) {
        lyingCount = 0;
        if (!told.has(MEN, man) || !told.has(CLIFFS, cliff) || !isSought(n)) {
            return NONE;
        }
        prepare(man);
        loadCry(second, 1);
        int count = cries.aheadOf(told, shout, cliff, n, second);
        if (count > 0) {
            layDown(cries.cry, n);
        }
        return count;
    }

    public int yeas(int voice, int what) {
        if (voice < 0 || voice >= VOICES || what < 0 || what > 2) {
            return NONE;
        }
        loadWeather(shout);
        loadCry(shout, 0);
        shout.voice = voice;
        int count = 0;
        int first = NONE;
        int last = NONE;
        for (int place = 0; place < PLACES; place++) {
            shout.place = place;
            if (court.verdict(told, shout, silence) == VERDICT_YES) {
                count++;
                first = first == NONE ? place : first;
                last = place;
            }
        }
        return oneOf(what, count, first, last);
    }

    public int clears(int man, int what) {
        if (!told.has(MEN, man) || what < 0 || what > 1) {
            return NONE;
        }
        prepare(man);
        int cliffs = told.counts[CLIFFS];
        for (int size = 0; size <= cliffs; size++) {
            for (int bits = 0; bits < 1 << cliffs; bits++) {
                if (Integer.bitCount(bits) == size) {
                    clearLedges(bits);
                    if (court.verdict(told, shout, silence) == VERDICT_YES) {
                        return what == 0 ? size : bits;
                    }
                }
            }
        }
        return NONE;
    }

    public int rhyme(int man) {
        lyingCount = 0;
        if (!told.has(MEN, man)) {
            return NONE;
        }
        prepare(man);
        int changed = rhymes.fewest(told, shout);
        if (changed > 0) {
            layDown(rhymes.found, changed);
        }
        return changed;
    }

    public int joined(int man, int other) {
        if (!told.has(MEN, man) || !told.has(MEN, other) || man == other) {
            return NONE;
        }
        prepare(man);
        loadWeather(second);
        loadCry(second, 1);
        second.place = told.manPlace[other];
        second.voice = told.manVoice[other];
        return court.verdict(told, shout, second);
    }

    public int luck(int man) {
        if (!told.has(MEN, man)) {
            return NONE;
        }
        prepare(man);
        int count = 0;
        for (int chance = 0; chance < CHANCES; chance++) {
            shout.chance = chance;
            if (court.verdict(told, shout, silence) == VERDICT_YES) {
                count++;
            }
        }
        return count;
    }

    public int winds(int man) {
        if (!told.has(MEN, man)) {
            return NONE;
        }
        prepare(man);
        int bits = 0;
        for (int wind = 0; wind < WINDS; wind++) {
            shout.wind = wind;
            if (court.verdict(told, shout, silence) == VERDICT_YES) {
                bits |= 1 << wind;
            }
        }
        return bits;
    }

    public int more(int man) {
        if (!told.has(MEN, man)) {
            return NONE;
        }
        prepare(man);
        int last = shout.length;
        if (last >= MAX_CRY) {
            return 0;
        }
        shout.length = last + 1;
        int bits = 0;
        for (int word = 0; word < told.counts[WORDS]; word++) {
            shout.words[last] = word;
            if (court.verdict(told, shout, silence) == VERDICT_YES) {
                bits |= 1 << word;
            }
        }
        return bits;
    }

    public int way(int state) {
        lyingCount = 0;
        if (!told.has(STATES, state)) {
            return NONE;
        }
        int steps = told.pathTo(state, lying);
        if (steps > 0) {
            lyingCount = steps;
        }
        return steps;
    }

    public int lies(int i) {
        return i < 0 || i >= lyingCount ? NONE : lying[i];
    }

    public int sound(int cliff, int n, int came) {
        if (!told.has(CLIFFS, cliff) || n < 1 || n > MAX_CRY || came < 0 || came > n) {
            return NONE;
        }
        return sounds.add(cliff, n, came);
    }

    public boolean untell(int sound) {
        return sounds.takeBack(sound);
    }

    public int later(int by) {
        if (by < 0 || by > 1000 || sounds.time + by > MAX_TIME) {
            return NONE;
        }
        sounds.time += by;
        return sounds.time;
    }

    public int stood(int what, int k) {
        if (what < 0 || what > 2) {
            return NONE;
        }
        sounds.findLeft(told, k);
        return oneOf(what, sounds.leftCount, sounds.firstLeft(), sounds.lastLeft());
    }

    public int ask(int what, int k) {
        if (what < 0 || what > 1 || told.counts[CLIFFS] == 0) {
            return NONE;
        }
        sounds.findLeft(told, k);
        if (sounds.leftCount == 0) {
            return NONE;
        }
        sounds.findQuestion(told);
        return what == 0 ? sounds.question : sounds.mostLeft;
    }

    public int image(int box) {
        if (!isBox(box)) {
            return NONE;
        }
        moments.keepIn(box);
        return moments.now[Moments.NOONS];
    }

    public int back(int box) {
        if (!isBox(box) || !moments.goBackTo(box)) {
            return NONE;
        }
        return moments.now[Moments.NOONS];
    }

    public int about(int what) {
        switch (what) {
            case 0: return told.counts[CLIFFS];
            case 1: return told.counts[WORDS];
            case 2: return told.counts[MEN];
            case 3: return told.counts[STATES];
            case 4: return told.ons;
            case 5: return moments.now[Moments.WIND];
            case 6: return moments.now[Moments.SEED];
            case 7: return moments.now[Moments.NOONS];
            case 8: return moments.cryLength(0);
            case 9: return moments.cryLength(1);
            case 10: return moments.undoable;
            case 11: return moments.redoable;
            case 12: return sounds.count;
            case 13: return sounds.time;
            case 14: return tape.length;
            case 15: return told.units;
            case 16: return lyingCount;
            default: return NONE;
        }
    }

    private static boolean isCry(int cry) {
        return cry == 0 || cry == 1;
    }

    private static boolean isBox(int box) {
        return box >= 0 && box < BOXES;
    }

    private static boolean isSought(int n) {
        return n >= 1 && n <= MAX_SOUGHT;
    }

    private static int oneOf(int what, int count, int first, int last) {
        if (what == 0) {
            return count;
        }
        return what == 1 ? first : last;
    }

    /** Makes shout the call of CRY 0 by a MAN who is there, by what is now. */
    private void prepare(int man) {
        loadWeather(shout);
        loadCry(shout, 0);
        shout.place = told.manPlace[man];
        shout.voice = told.manVoice[man];
    }

    private void loadWeather(Shout into) {
        into.wind = moments.now[Moments.WIND];
        into.chance = 0;
        System.arraycopy(moments.now, Moments.SNOW, into.snow, 0, MAX_CLIFFS);
    }

    private void loadCry(Shout into, int cry) {
        into.length = moments.cryLength(cry);
        for (int i = 0; i < into.length; i++) {
            into.words[i] = moments.wordAt(cry, i);
        }
    }

    /** Makes the shout's snow that of now, but for the CLIFFS to clear. */
    private void clearLedges(int bits) {
        for (int cliff = 0; cliff < told.counts[CLIFFS]; cliff++) {
            boolean cleared = (bits >> cliff & 1) != 0;
            shout.snow[cliff] = cleared ? 0 : moments.now[Moments.SNOW + cliff];
        }
    }

    private void layDown(int[] row, int count) {
        System.arraycopy(row, 0, lying, 0, count);
        lyingCount = count;
    }

    /** The bytes that were fed, and the TOKENS in them. */
    private static final class Tape {
        // Kinds of TOKENS; a sign's kind is its byte, a key's its number in KEYS from FIRST_KEY on.
        static final int END = 0;
        static final int NAME = 1;
        static final int NUMBER = 2;
        static final int BAD = 3;
        static final int WORD = 100;
        static final int CLIFF = 101;
        static final int MAN = 102;
        static final int STATE = 103;
        static final int ON = 104;
        static final int BACK = 105;
        static final int LOST = 106;
        static final int TURN = 107;
        static final int WIND = 108;
        static final int DRAW = 109;
        static final int AT = 110;
        static final int VOICE = 111;
        static final int YES = 112;
        static final int TO = 113;
        static final int OR = 114;
        static final int AND = 115;
        static final int NOT = 116;
        static final int FAR = 117;
        static final int BLOWS = 118;
        static final int SNOW = 119;
        static final int LONG = 120;
        static final int LOUD = 121;
        static final int BEHIND = 122;
        static final int CHANCE = 123;

        private static final int FIRST_KEY = WORD;
        private static final int KEY_COUNT = 24;
        private static final String KEYS =
            "word cliff man state on back lost turn wind draw at voice yes to or and not far blows snow long loud behind chance ";
        private static final String SIGNS = ";()<>=+-*/%";
        private static final int LETTERS = 27;
        private static final int BEFORE_A = 'a' - 1;
        private static final int MAX_LETTERS = 8;
        private static final int MAX_DIGITS = 4;

        final byte[] bytes = new byte[MAX_BYTES];
        // Words as numbers, letters being their digits, so that two are compared at once.
        private final long[] keys = new long[KEY_COUNT];
        int length;
        private int at;
        int start;
        int kind;
        long name;
        int number;

        Tape() {
            int key = 0;
            for (int i = 0; i < KEYS.length() && key < KEY_COUNT; i++) {
                char letter = KEYS.charAt(i);
                if (letter == ' ') {
                    key++;
                } else {
                    keys[key] = keys[key] * LETTERS + (letter - BEFORE_A);
                }
            }
        }

        void append(int four) {
            for (int shift = 24; shift >= 0 && length < MAX_BYTES; shift -= 8) {
                bytes[length] = (byte) (four >> shift);
                length++;
            }
        }

        void rewind() {
            at = 0;
            next();
        }

        void next() {
            while (at < length && (bytes[at] == ' ' || bytes[at] == '\n')) {
                at++;
            }
            start = at;
            if (at >= length) {
                kind = END;
            } else if (isLetter(at)) {
                readWord();
                kind = at - start > MAX_LETTERS ? BAD : kindOf(name);
            } else if (isDigit(at)) {
                readNumber();
                kind = at - start > MAX_DIGITS || isLetter(at) ? BAD : NUMBER;
            } else {
                int sign = bytes[at] & 255;
                kind = SIGNS.indexOf((char) sign) >= 0 ? sign : BAD;
                at++;
            }
        }

        private void readWord() {
            name = 0;
            while (at < length && bytes[at] >= 'a' && bytes[at] <= 'z') {
                name = name * LETTERS + (bytes[at] - BEFORE_A);
                at++;
            }
        }

        private void readNumber() {
            number = 0;
            while (at < length && bytes[at] >= '0' && bytes[at] <= '9') {
                number = number * 10 + (bytes[at] - '0');
                at++;
            }
        }

        private int kindOf(long code) {
            for (int key = 0; key < KEY_COUNT; key++) {
                if (keys[key] == code) {
                    return FIRST_KEY + key;
                }
            }
            return NAME;
        }

        private boolean isLetter(int i) {
            return i < length && bytes[i] >= 'a' && bytes[i] <= 'z';
        }

        private boolean isDigit(int i) {
            return i < length && bytes[i] >= '0' && bytes[i] <= '9';
        }
    }

    /** An e, as its units and what is done with them, the latter behind what it is done with. */
    private static final class Formula {
        // What a unit may ask for, by its number in a row of facts.
        static final int FAR = 0;
        static final int BLOWS = 1;
        static final int SNOW = 2;
        static final int LONG = 3;
        static final int LOUD = 4;
        static final int BEHIND = 5;
        static final int CHANCE = 6;
        static final int FACTS = 7;

        static final int MAX_UNITS = 30;
        // 30 units, 29 that join two of them, 7 times not for each: 269 at most.
        private static final int ROOM = 280;
        // In the code N are themselves, facts and what is done begin above all N.
        private static final int FIRST_FACT = 10000;
        private static final int FIRST_DEED = 20000;

        private final int[] code = new int[ROOM];
        private final int[] stack = new int[MAX_UNITS + 1];
        private int length;
        boolean told;

        void clear() {
            length = 0;
            told = false;
        }

        void addNumber(int number) {
            add(number);
        }

        void addFact(int fact) {
            add(FIRST_FACT + fact);
        }

        void addDeed(int kind) {
            add(FIRST_DEED + kind);
        }

        private void add(int step) {
            if (length < ROOM) {
                code[length] = step;
                length++;
            }
        }

        int value(int[] facts) {
            // The latest value is held beside the stack, which holds those that still wait.
            int top = 0;
            int value = 0;
            for (int i = 0; i < length; i++) {
                int step = code[i];
                if (step == FIRST_DEED + Tape.NOT) {
                    value = value == 0 ? 1 : 0;
                } else if (step >= FIRST_DEED && top > 0) {
                    top--;
                    value = combine(step - FIRST_DEED, stack[top], value);
                } else if (step < FIRST_DEED && top < stack.length) {
                    stack[top] = value;
                    top++;
                    value = step < FIRST_FACT ? step : facts[step - FIRST_FACT];
                }
            }
            return value;
        }

        private static int combine(int kind, int a, int b) {
            switch (kind) {
                case '+': return a + b;
                case '-': return a - b;
                case '*': return a * b;
                case '/': return b == 0 ? 0 : a / b;
                case '%': return b == 0 ? 0 : a % b;
                case '<': return a < b ? 1 : 0;
                case '>': return a > b ? 1 : 0;
                case '=': return a == b ? 1 : 0;
                case Tape.AND: return a != 0 && b != 0 ? 1 : 0;
                case Tape.OR: return a != 0 || b != 0 ? 1 : 0;
                default: return 0;
            }
        }
    }

    /** What a text told. */
    private static final class Hills {
        private static final int COMES_UNTOLD = 3;
        private static final int NO_PATH = 99;

        final int[] counts = new int[4];
        final int[] loud = new int[MAX_WORDS];
        final int[] cliffPlace = new int[MAX_CLIFFS];
        final int[] cliffSnow = new int[MAX_CLIFFS];
        final int[] manPlace = new int[MAX_MEN];
        final int[] manVoice = new int[MAX_MEN];
        final int[] next = new int[MAX_STATES * MAX_WORDS];
        private final int[] stepsLeft = new int[MAX_STATES];
        final Formula back = new Formula();
        final Formula lost = new Formula();
        final Formula turn = new Formula();
        int yesStates;
        int ons;
        int wind;
        int draw;
        int units;

        Hills() {
            clear();
            settle();
        }

        void clear() {
            for (int sort = 0; sort < counts.length; sort++) {
                counts[sort] = 0;
            }
            for (int i = 0; i < next.length; i++) {
                next[i] = NONE;
            }
            back.clear();
            lost.clear();
            turn.clear();
            yesStates = 0;
            ons = 0;
            wind = 0;
            draw = 0;
            units = 0;
        }

        /** Where no on is told, one stays. */
        void settle() {
            for (int i = 0; i < next.length; i++) {
                if (next[i] == NONE) {
                    next[i] = i / MAX_WORDS;
                }
            }
        }

        boolean has(int sort, int i) {
            return i >= 0 && i < counts[sort];
        }

        int far(int cliff, int place) {
            return Math.abs(place - cliffPlace[cliff]);
        }

        /** How many of the last WORDS come of back, by a row of facts. */
        int comes(int[] facts) {
            int all = facts[Formula.LONG];
            int comes = back.told ? back.value(facts) : COMES_UNTOLD;
            return Math.max(0, Math.min(all, comes));
        }

        boolean isYesState(int state) {
            return (yesStates >> state & 1) != 0;
        }

        boolean isYes(int[] row, int count) {
            int state = 0;
            for (int i = 0; i < count; i++) {
                state = next[state * MAX_WORDS + row[i]];
            }
            return isYesState(state);
        }

        /** The first of the shortest rows of WORDS from STATE 0 to a STATE: how many, or NONE. */
        int pathTo(int goal, int[] into) {
            countStepsTo(goal);
            int steps = stepsLeft[0];
            if (steps == NO_PATH) {
                return NONE;
            }
            int state = 0;
            for (int i = 0; i < steps; i++) {
                int word = firstWordNearer(state);
                into[i] = word;
                state = next[state * MAX_WORDS + word];
            }
            return steps;
        }

        private void countStepsTo(int goal) {
            for (int state = 0; state < MAX_STATES; state++) {
                stepsLeft[state] = state == goal ? 0 : NO_PATH;
            }
            for (int round = 1; round < counts[STATES]; round++) {
                for (int state = 0; state < counts[STATES]; state++) {
                    if (stepsLeft[state] == NO_PATH && leadsToOneAt(state, round - 1)) {
                        stepsLeft[state] = round;
                    }
                }
            }
        }

        private boolean leadsToOneAt(int state, int steps) {
            for (int word = 0; word < counts[WORDS]; word++) {
                if (stepsLeft[next[state * MAX_WORDS + word]] == steps) {
                    return true;
                }
            }
            return false;
        }

        private int firstWordNearer(int state) {
            for (int word = 0; word < counts[WORDS]; word++) {
                if (stepsLeft[next[state * MAX_WORDS + word]] == stepsLeft[state] - 1) {
                    return word;
                }
            }
            return 0;
        }
    }

    /** Reads a text into HILLS, up to its first FAULT. */
    private static final class Teller {
        private static final int NO_TOKEN = 1;
        private static final int MISPLACED = 2;
        private static final int TOLD_ALREADY = 3;
        private static final int BAD_NUMBER = 4;
        private static final int UNKNOWN = 5;

        private static final int MAX_UNITS_IN_ALL = 60;
        private static final int MAX_DEPTH = 7;
        private static final int MAX_PLACE = 99;
        private static final int MAX_DIGIT = 9;
        private static final int MAX_DRAW = 999;

        private final Tape tape;
        private final long[][] names = new long[4][MAX_WORDS];
        private Hills hills;
        private Formula formula;
        private int unitsHere;
        private boolean windTold;
        private boolean drawTold;
        private int value;
        int fault;
        int place;

        Teller(Tape tape) {
            this.tape = tape;
            place = NONE;
        }

        boolean tell(Hills into) {
            hills = into;
            formula = into.back;
            into.clear();
            windTold = false;
            drawTold = false;
            fault = 0;
            place = NONE;
            tape.rewind();
            boolean good = true;
            for (int line = 0; line < MAX_BYTES && good && tape.kind != Tape.END; line++) {
                good = tellLine();
            }
            into.settle();
            return good;
        }

        /** A FAULT at the TOKEN that is looked at. */
        private boolean fail(int code) {
            fault = tape.kind == Tape.BAD ? NO_TOKEN : code;
            place = tape.start;
            return false;
        }

        private boolean tellLine() {
            switch (tape.kind) {
                case Tape.WORD: return tellWord();
                case Tape.CLIFF: return tellPlaced(CLIFFS, hills.cliffPlace, Tape.SNOW, hills.cliffSnow);
                case Tape.MAN: return tellPlaced(MEN, hills.manPlace, Tape.VOICE, hills.manVoice);
                case Tape.STATE: return tellState();
                case Tape.ON: return tellOn();
                case Tape.BACK: return tellFormula(hills.back);
                case Tape.LOST: return tellFormula(hills.lost);
                case Tape.TURN: return tellFormula(hills.turn);
                case Tape.WIND: return tellWind();
                case Tape.DRAW: return tellDraw();
                default: return fail(MISPLACED);
            }
        }

        private boolean tellWord() {
            int word = hills.counts[WORDS];
            return takeNew(WORDS, MAX_WORDS) && takeOption(Tape.LOUD, hills.loud, word) && take(';');
        }

        private boolean tellPlaced(int sort, int[] places, int key, int[] amounts) {
            int i = hills.counts[sort];
            if (!takeNew(sort, places.length) || !take(Tape.AT) || !takeNumber(MAX_PLACE)) {
                return false;
            }
            places[i] = value;
            return takeOption(key, amounts, i) && take(';');
        }

        private boolean tellState() {
            int state = hills.counts[STATES];
            if (!takeNew(STATES, MAX_STATES)) {
                return false;
            }
            if (tape.kind == Tape.YES) {
                hills.yesStates |= 1 << state;
                tape.next();
            }
            return take(';');
        }

        private boolean tellOn() {
            if (hills.ons >= MAX_ONS) {
                return fail(MISPLACED);
            }
            tape.next();
            int from = known(STATES);
            if (from == NONE) {
                return false;
            }
            tape.next();
            int word = known(WORDS);
            if (word == NONE) {
                return false;
            }
            int i = from * MAX_WORDS + word;
            if (hills.next[i] != NONE) {
                return fail(TOLD_ALREADY);
            }
            tape.next();
            if (!take(Tape.TO)) {
                return false;
            }
            int to = known(STATES);
            if (to == NONE) {
                return false;
            }
            hills.next[i] = to;
            hills.ons++;
            tape.next();
            return take(';');
        }

        private boolean tellWind() {
            if (windTold) {
                return fail(MISPLACED);
            }
            windTold = true;
            tape.next();
            if (!takeNumber(MAX_DIGIT)) {
                return false;
            }
            hills.wind = value;
            return take(';');
        }

        private boolean tellDraw() {
            if (drawTold) {
                return fail(MISPLACED);
            }
            drawTold = true;
            tape.next();
            if (!takeNumber(MAX_DRAW)) {
                return false;
            }
            hills.draw = value;
            return take(';');
        }

        private boolean tellFormula(Formula into) {
            if (into.told) {
                return fail(MISPLACED);
            }
            into.told = true;
            formula = into;
            unitsHere = 0;
            tape.next();
            return takeEither(0) && take(';');
        }

        private boolean take(int kind) {
            if (tape.kind != kind) {
                return fail(MISPLACED);
            }
            tape.next();
            return true;
        }

        /** The line's first word, and a NAME that none of its sort has. */
        private boolean takeNew(int sort, int most) {
            int count = hills.counts[sort];
            if (count >= most) {
                return fail(MISPLACED);
            }
            tape.next();
            if (tape.kind != Tape.NAME) {
                return fail(MISPLACED);
            }
            if (find(sort) != NONE) {
                return fail(TOLD_ALREADY);
            }
            names[sort][count] = tape.name;
            hills.counts[sort] = count + 1;
            tape.next();
            return true;
        }

        private int known(int sort) {
            if (tape.kind != Tape.NAME) {
                fail(MISPLACED);
                return NONE;
            }
            int i = find(sort);
            if (i == NONE) {
                fail(UNKNOWN);
            }
            return i;
        }

        private int find(int sort) {
            for (int i = 0; i < hills.counts[sort]; i++) {
                if (names[sort][i] == tape.name) {
                    return i;
                }
            }
            return NONE;
        }

        private boolean takeNumber(int most) {
            if (tape.kind != Tape.NUMBER) {
                return fail(MISPLACED);
            }
            if (tape.number > most) {
                return fail(BAD_NUMBER);
            }
            value = tape.number;
            tape.next();
            return true;
        }

        private boolean takeOption(int key, int[] amounts, int i) {
            amounts[i] = 0;
            if (tape.kind != key) {
                return true;
            }
            tape.next();
            if (!takeNumber(MAX_DIGIT)) {
                return false;
            }
            amounts[i] = value;
            return true;
        }

        private boolean takeEither(int depth) {
            boolean good = takeBoth(depth);
            for (int i = 0; i < MAX_BYTES && good && tape.kind == Tape.OR; i++) {
                tape.next();
                good = takeBoth(depth);
                formula.addDeed(Tape.OR);
            }
            return good;
        }

        private boolean takeBoth(int depth) {
            boolean good = takeOne(depth);
            for (int i = 0; i < MAX_BYTES && good && tape.kind == Tape.AND; i++) {
                tape.next();
                good = takeOne(depth);
                formula.addDeed(Tape.AND);
            }
            return good;
        }

        private boolean takeOne(int depth) {
            if (tape.kind == Tape.NOT) {
                return takeNot(depth);
            }
            if (!takeSum(depth)) {
                return false;
            }
            int sign = tape.kind;
            if (sign != '<' && sign != '>' && sign != '=') {
                return true;
            }
            tape.next();
            boolean good = takeSum(depth);
            formula.addDeed(sign);
            return good;
        }

        private boolean takeNot(int depth) {
            if (depth >= MAX_DEPTH) {
                return fail(MISPLACED);
            }
            tape.next();
            boolean good = takeOne(depth + 1);
            formula.addDeed(Tape.NOT);
            return good;
        }

        private boolean takeSum(int depth) {
            boolean good = takeTerm(depth);
            for (int i = 0; i < MAX_BYTES && good && (tape.kind == '+' || tape.kind == '-'); i++) {
                int sign = tape.kind;
                tape.next();
                good = takeTerm(depth);
                formula.addDeed(sign);
            }
            return good;
        }

        private boolean takeTerm(int depth) {
            boolean good = takeUnit(depth);
            for (int i = 0; i < MAX_BYTES && good && isOfTerm(tape.kind); i++) {
                int sign = tape.kind;
                tape.next();
                good = takeUnit(depth);
                formula.addDeed(sign);
            }
            return good;
        }

        private static boolean isOfTerm(int kind) {
            return kind == '*' || kind == '/' || kind == '%';
        }

        private boolean takeUnit(int depth) {
            if (unitsHere >= Formula.MAX_UNITS || hills.units >= MAX_UNITS_IN_ALL) {
                return fail(MISPLACED);
            }
            unitsHere++;
            hills.units++;
            if (tape.kind == '(') {
                return takeInner(depth);
            }
            int fact = factOf(tape.kind);
            if (fact != NONE) {
                formula.addFact(fact);
            } else if (tape.kind == Tape.NUMBER) {
                formula.addNumber(tape.number);
            } else {
                return fail(MISPLACED);
            }
            tape.next();
            return true;
        }

        private static int factOf(int kind) {
            switch (kind) {
                case Tape.FAR: return Formula.FAR;
                case Tape.BLOWS: return Formula.BLOWS;
                case Tape.SNOW: return Formula.SNOW;
                case Tape.LONG: return Formula.LONG;
                case Tape.LOUD: return Formula.LOUD;
                case Tape.BEHIND: return Formula.BEHIND;
                case Tape.CHANCE: return Formula.CHANCE;
                default: return NONE;
            }
        }

        private boolean takeInner(int depth) {
            if (depth >= MAX_DEPTH) {
                return fail(MISPLACED);
            }
            tape.next();
            return takeEither(depth + 1) && take(')');
        }
    }

    /** What is in earnest, the ACTS that can be undone and redone, and the BOXES. */
    private static final class Moments {
        // One moment is a row: two CRIES (how many WORDS, then these), weather, VERDICTS by MAN.
        private static final int CRY_SIZE = 1 + MAX_CRY;
        static final int WIND = 2 * CRY_SIZE;
        static final int SEED = WIND + 1;
        static final int NOONS = SEED + 1;
        static final int SNOW = NOONS + 1;
        private static final int VERDICTS = SNOW + MAX_CLIFFS;
        private static final int SIZE = VERDICTS + 3 * MAX_MEN;

        private static final int KEPT = 40;
        private static final int ROWS = KEPT + 1;

        final int[] now = new int[SIZE];
        // A ring of moments, one ahead of each ACT that is kept and one behind the last.
        private final int[] rows = new int[ROWS * SIZE];
        private final int[] boxes = new int[BOXES * SIZE];
        private int fullBoxes;
        private int current;
        int undoable;
        int redoable;

        void begin(Hills hills) {
            for (int i = 0; i < SIZE; i++) {
                now[i] = 0;
            }
            now[WIND] = hills.wind;
            now[SEED] = hills.draw;
            for (int cliff = 0; cliff < hills.counts[CLIFFS]; cliff++) {
                now[SNOW + cliff] = hills.cliffSnow[cliff];
            }
            fullBoxes = 0;
            forgetActs();
        }

        private void forgetActs() {
            current = 0;
            undoable = 0;
            redoable = 0;
            System.arraycopy(now, 0, rows, 0, SIZE);
        }

        private void keepAct() {
            current = (current + 1) % ROWS;
            undoable = Math.min(undoable + 1, KEPT);
            redoable = 0;
            System.arraycopy(now, 0, rows, current * SIZE, SIZE);
        }

        boolean stepBack() {
            if (undoable == 0) {
                return false;
            }
            undoable--;
            redoable++;
            goTo((current + ROWS - 1) % ROWS);
            return true;
        }

        boolean stepOn() {
            if (redoable == 0) {
                return false;
            }
            undoable++;
            redoable--;
            goTo((current + 1) % ROWS);
            return true;
        }

        private void goTo(int row) {
            current = row;
            System.arraycopy(rows, row * SIZE, now, 0, SIZE);
        }

        void keepIn(int box) {
            System.arraycopy(now, 0, boxes, box * SIZE, SIZE);
            fullBoxes |= 1 << box;
        }

        boolean goBackTo(int box) {
            if ((fullBoxes >> box & 1) == 0) {
                return false;
            }
            System.arraycopy(boxes, box * SIZE, now, 0, SIZE);
            forgetActs();
            return true;
        }

        int cryLength(int cry) {
            return now[cry * CRY_SIZE];
        }

        int wordAt(int cry, int i) {
            return now[cry * CRY_SIZE + 1 + i];
        }

        int verdicts(int man, int verdict) {
            return now[VERDICTS + 3 * man + verdict];
        }

        void addWord(int cry, int word) {
            int count = now[cry * CRY_SIZE] + 1;
            now[cry * CRY_SIZE] = count;
            now[cry * CRY_SIZE + count] = word;
            keepAct();
        }

        int dropWord(int cry) {
            int count = now[cry * CRY_SIZE];
            int word = now[cry * CRY_SIZE + count];
            now[cry * CRY_SIZE] = count - 1;
            keepAct();
            return word;
        }

        void countVerdict(int man, int verdict) {
            now[VERDICTS + 3 * man + verdict]++;
            keepAct();
        }

        void passNoon(int cliffs) {
            int seed = (now[SEED] * 137 + 71) % 1000;
            now[SEED] = seed;
            now[WIND] = seed % 10;
            now[NOONS]++;
            if (seed / 10 % 2 == 0) {
                for (int cliff = 0; cliff < cliffs; cliff++) {
                    now[SNOW + cliff] = Math.min(now[SNOW + cliff] + 1, MAX_SNOW);
                }
            }
            keepAct();
        }

        int clearLedge(int cliff) {
            int snow = now[SNOW + cliff];
            now[SNOW + cliff] = 0;
            keepAct();
            return snow;
        }
    }

    /** A CRY as it is called: all that its ECHO comes of, but for the CLIFF. */
    private static final class Shout {
        final int[] words = new int[MAX_CRY];
        final int[] snow = new int[MAX_CLIFFS];
        int length;
        int place;
        int voice;
        int wind;
        int chance;
    }

    /** What one CLIFF does with CRIES of one length, called in one way. */
    private static final class Ear {
        static final int ALL = 255;

        // Of each place in the CRY the WORDS, as bits, that don't come back from there.
        final int[] gone = new int[MAX_CRY];
        private final int[] facts = new int[Formula.FACTS];
        boolean turned;
        int length;
        private int first;

        /** Listens for the WORDS of the shout alone. */
        void tune(Hills hills, Shout shout, int cliff) {
            place(hills, shout, cliff, shout.length);
            for (int i = first; i < length; i++) {
                int word = shout.words[i];
                gone[i] = isLost(hills, shout, word, i) ? 1 << word : 0;
            }
        }

        /** Listens for all CRIES of n WORDS. */
        void tuneToAll(Hills hills, Shout shout, int cliff, int n) {
            place(hills, shout, cliff, n);
            for (int i = first; i < length; i++) {
                gone[i] = 0;
                for (int word = 0; word < hills.counts[WORDS]; word++) {
                    if (isLost(hills, shout, word, i)) {
                        gone[i] |= 1 << word;
                    }
                }
            }
        }

        private void place(Hills hills, Shout shout, int cliff, int n) {
            facts[Formula.FAR] = hills.far(cliff, shout.place);
            facts[Formula.BLOWS] = shout.wind;
            facts[Formula.SNOW] = shout.snow[cliff];
            facts[Formula.LONG] = n;
            facts[Formula.LOUD] = 0;
            facts[Formula.BEHIND] = 0;
            facts[Formula.CHANCE] = 0;
            length = n;
            first = n - hills.comes(facts);
            turned = first < n && hills.turn.told && hills.turn.value(facts) != 0;
            for (int i = 0; i < first; i++) {
                gone[i] = ALL;
            }
        }

        private boolean isLost(Hills hills, Shout shout, int word, int i) {
            if (!hills.lost.told) {
                return false;
            }
            facts[Formula.LOUD] = hills.loud[word] + shout.voice;
            facts[Formula.BEHIND] = length - 1 - i;
            facts[Formula.CHANCE] = shout.chance;
            return hills.lost.value(facts) != 0;
        }

        boolean comesBack(int i, int word) {
            return (gone[i] >> word & 1) == 0;
        }

        /** Which place in the CRY is the k-th that this CLIFF sends back, gone or not. */
        int placeOf(int k) {
            return turned ? length - 1 - k : k;
        }

        /** Puts the ECHO of a CRY into a row behind what is there: how many are there then. */
        int send(int[] words, int[] row, int count) {
            int end = count;
            for (int k = 0; k < length; k++) {
                int i = placeOf(k);
                if (comesBack(i, words[i]) && end < row.length) {
                    row[end] = words[i];
                    end++;
                }
            }
            return end;
        }
    }

    /** Which CLIFF BINDS, and the VERDICT. */
    private static final class Court {
        final Ear[] ears = new Ear[MAX_CLIFFS];
        final int[] row = new int[2 * MAX_CRY];
        int bound;

        Court() {
            for (int cliff = 0; cliff < MAX_CLIFFS; cliff++) {
                ears[cliff] = new Ear();
            }
        }

        /** Puts the ECHO from a CLIFF into row behind so many WORDS: how many are there then. */
        int listen(Hills hills, Shout shout, int cliff, int count) {
            if (shout.length == 0) {
                return count;
            }
            Ear ear = ears[cliff];
            ear.tune(hills, shout, cliff);
            return ear.send(shout.words, row, count);
        }

        /** The VERDICT for one who calls, and another one (or silence) at once. */
        int verdict(Hills hills, Shout one, Shout other) {
            bound = NONE;
            int verdict = VERDICT_NONE;
            for (int cliff = 0; cliff < hills.counts[CLIFFS]; cliff++) {
                if (bound == NONE || hills.far(cliff, one.place) < hills.far(bound, one.place)) {
                    int came = listen(hills, other, cliff, listen(hills, one, cliff, 0));
                    if (came > 0) {
                        bound = cliff;
                        verdict = hills.isYes(row, came) ? VERDICT_YES : VERDICT_NOT;
                    }
                }
            }
            return verdict;
        }
    }

    /** Searches among all CRIES of n WORDS: for PARDONS, and what can have been AHEAD. */
    private static final class Cries {
        // What the WORDS so far do, at one CLIFF: 3 bits for each STATE tell where they lead from
        // it (only from STATE 0, where the CLIFF doesn't turn), one more that some came back.
        private static final int STATE_BITS = 3;
        private static final int STATE_MASK = 7;
        private static final int ANSWERED = 1 << STATE_BITS * MAX_STATES;

        final int[] cry = new int[MAX_SOUGHT];
        private final Ear[] ears;
        private final int[] paths = new int[(MAX_SOUGHT + 1) * MAX_CLIFFS];
        private final int[] wanted = new int[MAX_CRY];
        private final int[] ways = new int[(MAX_SOUGHT + 1) * (MAX_CRY + 1)];
        private Hills hills;
        private int length;
        private boolean oneWillDo;

        Cries(Court court) {
            ears = court.ears;
        }

        /** How many PARDONS of n WORDS there are; if one will do, 1 or 0, and it is in cry. */
        int pardonsOf(Hills by, Shout shout, int n, boolean oneIsEnough) {
            hills = by;
            length = n;
            oneWillDo = oneIsEnough;
            for (int cliff = 0; cliff < by.counts[CLIFFS]; cliff++) {
                ears[cliff].tuneToAll(by, shout, cliff, n);
                paths[cliff] = unmoved();
            }
            return countFrom(0);
        }

        private static int unmoved() {
            int path = 0;
            for (int state = 0; state < MAX_STATES; state++) {
                path |= state << STATE_BITS * state;
            }
            return path;
        }

        /** How many PARDONS begin with the first so many WORDS of cry. */
        private int countFrom(int depth) {
            int count = 0;
            if (depth >= length || depth >= MAX_SOUGHT) {
                return count;
            }
            for (int word = 0; word < hills.counts[WORDS]; word++) {
                cry[depth] = word;
                if (depth == length - 1) {
                    count += pardonsWithLast(depth, word) ? 1 : 0;
                } else {
                    goOn(depth, word);
                    count += countFrom(depth + 1);
                }
                if (oneWillDo && count > 0) {
                    return count;
                }
            }
            return count;
        }

        private void goOn(int depth, int word) {
            for (int cliff = 0; cliff < hills.counts[CLIFFS]; cliff++) {
                int path = paths[depth * MAX_CLIFFS + cliff];
                Ear ear = ears[cliff];
                if (ear.comesBack(depth, word)) {
                    path = ANSWERED | (ear.turned ? turnedPath(path, word) : straightPath(path, word));
                }
                paths[(depth + 1) * MAX_CLIFFS + cliff] = path;
            }
        }

        private static int stateOf(int path, int from) {
            return path >> STATE_BITS * from & STATE_MASK;
        }

        private int straightPath(int path, int word) {
            return hills.next[stateOf(path, 0) * MAX_WORDS + word];
        }

        /** Turned about, the newest WORD comes ahead of those that were said before it. */
        private int turnedPath(int path, int word) {
            int turned = 0;
            for (int state = 0; state < hills.counts[STATES]; state++) {
                int then = stateOf(path, hills.next[state * MAX_WORDS + word]);
                turned |= then << STATE_BITS * state;
            }
            return turned;
        }

        private boolean pardonsWithLast(int depth, int word) {
            for (int cliff = 0; cliff < hills.counts[CLIFFS]; cliff++) {
                int path = paths[depth * MAX_CLIFFS + cliff];
                Ear ear = ears[cliff];
                boolean comes = ear.comesBack(depth, word);
                if (!comes && (path & ANSWERED) == 0) {
                    return false;
                }
                if (!hills.isYesState(comes ? endState(ear, path, word) : stateOf(path, 0))) {
                    return false;
                }
            }
            return true;
        }

        private int endState(Ear ear, int path, int word) {
            return ear.turned ? stateOf(path, hills.next[word]) : straightPath(path, word);
        }

        /** How many CRIES of n WORDS come back as the target is; the first of them is in cry. */
        int aheadOf(Hills by, Shout shout, int cliff, int n, Shout target) {
            hills = by;
            length = n;
            Ear ear = ears[cliff];
            ear.tuneToAll(by, shout, cliff, n);
            int size = target.length;
            for (int j = 0; j < size; j++) {
                wanted[j] = target.words[ear.turned ? size - 1 - j : j];
            }
            countWays(ear, size);
            if (ways[0] > 0) {
                followWays(ear, size);
            }
            return ways[0];
        }

        private static int wayIndex(int i, int j) {
            return i * (MAX_CRY + 1) + j;
        }

        /** Of each i and j: CRIES from their place i on that send what is wanted from j on. */
        private void countWays(Ear ear, int size) {
            int allWords = (1 << hills.counts[WORDS]) - 1;
            for (int j = 0; j <= size; j++) {
                ways[wayIndex(length, j)] = j == size ? 1 : 0;
            }
            for (int i = length - 1; i >= 0; i--) {
                int silent = Integer.bitCount(ear.gone[i] & allWords);
                for (int j = 0; j <= size; j++) {
                    int count = silent * ways[wayIndex(i + 1, j)];
                    if (j < size && ear.comesBack(i, wanted[j])) {
                        count += ways[wayIndex(i + 1, j + 1)];
                    }
                    ways[wayIndex(i, j)] = count;
                }
            }
        }

        private void followWays(Ear ear, int size) {
            int j = 0;
            for (int i = 0; i < length; i++) {
                boolean found = false;
                for (int word = 0; word < hills.counts[WORDS] && !found; word++) {
                    boolean comes = ear.comesBack(i, word);
                    boolean fits = !comes || j < size && wanted[j] == word;
                    int then = comes ? j + 1 : j;
                    if (fits && ways[wayIndex(i + 1, then)] > 0) {
                        cry[i] = word;
                        j = then;
                        found = true;
                    }
                }
            }
        }
    }

    /** Searches for the fewest WORDS of a CRY to change. */
    private static final class Rhymes {
        // 10 * the place in the CRY and the WORD, of each that is changed.
        final int[] found = new int[MAX_CHANGED];
        private final Ear[] ears;
        private final int[] row;
        private final int[] places = new int[MAX_CHANGED];
        // CLIFFS, the nearest first; and of each, by place in the CRY, what nearer ones don't send.
        private final int[] nearest = new int[MAX_CLIFFS];
        private final int[] quiet = new int[MAX_CLIFFS * MAX_CRY];
        private Hills hills;
        private Shout shout;
        private int changes;

        Rhymes(Court court) {
            ears = court.ears;
            row = court.row;
        }

        int fewest(Hills by, Shout called) {
            hills = by;
            shout = called;
            for (int cliff = 0; cliff < by.counts[CLIFFS]; cliff++) {
                ears[cliff].tuneToAll(by, called, cliff, called.length);
            }
            orderCliffs();
            findQuiet();
            for (int size = 0; size <= MAX_CHANGED; size++) {
                changes = size;
                if (choosePlaces(0, 0, 0)) {
                    chooseWords(0);
                    return size;
                }
            }
            return NONE;
        }

        private void orderCliffs() {
            for (int cliff = 0; cliff < hills.counts[CLIFFS]; cliff++) {
                int rank = cliff;
                int far = hills.far(cliff, shout.place);
                while (rank > 0 && hills.far(nearest[rank - 1], shout.place) > far) {
                    nearest[rank] = nearest[rank - 1];
                    rank--;
                }
                nearest[rank] = cliff;
            }
        }

        private void findQuiet() {
            for (int i = 0; i < shout.length; i++) {
                int mask = Ear.ALL;
                for (int rank = 0; rank < hills.counts[CLIFFS]; rank++) {
                    quiet[rank * MAX_CRY + i] = mask;
                    mask &= ears[nearest[rank]].gone[i];
                }
            }
        }

        /** Whether some places behind those chosen already can turn it; changed: these as bits. */
        private boolean choosePlaces(int chosen, int from, int changed) {
            if (chosen >= changes || chosen >= MAX_CHANGED) {
                return canBeYes(changed);
            }
            for (int i = from; i < shout.length; i++) {
                places[chosen] = i;
                if (choosePlaces(chosen + 1, i + 1, changed | 1 << i)) {
                    return true;
                }
            }
            return false;
        }

        private boolean canBeYes(int changed) {
            for (int rank = 0; rank < hills.counts[CLIFFS]; rank++) {
                if (canBeYesBy(rank, changed)) {
                    return true;
                }
            }
            return false;
        }

        /** Follows all CRIES with other WORDS at the changed places at once, as bits of STATES. */
        private boolean canBeYesBy(int rank, int changed) {
            Ear ear = ears[nearest[rank]];
            int states = 0;
            boolean nothingCame = true;
            for (int k = 0; k < shout.length; k++) {
                int i = ear.placeOf(k);
                int may = choices(i, changed) & quiet[rank * MAX_CRY + i];
                if (may == 0) {
                    return false;
                }
                boolean maySkip = (may & ear.gone[i]) != 0;
                int then = led(nothingCame ? states | 1 : states, may & ~ear.gone[i]);
                states = maySkip ? states | then : then;
                nothingCame = nothingCame && maySkip;
            }
            return (states & hills.yesStates) != 0;
        }

        private int choices(int i, int changed) {
            int own = 1 << shout.words[i];
            int all = (1 << hills.counts[WORDS]) - 1;
            return (changed >> i & 1) == 0 ? own : all & ~own;
        }

        private int led(int states, int words) {
            int then = 0;
            for (int word = 0; word < hills.counts[WORDS]; word++) {
                if ((words >> word & 1) != 0) {
                    for (int state = 0; state < MAX_STATES; state++) {
                        if ((states >> state & 1) != 0) {
                            then |= 1 << hills.next[state * MAX_WORDS + word];
                        }
                    }
                }
            }
            return then;
        }

        /** The first WORDS for the chosen places by which the VERDICT is YES. */
        private boolean chooseWords(int chosen) {
            if (chosen >= changes || chosen >= MAX_CHANGED) {
                return isYesNow();
            }
            int i = places[chosen];
            int own = shout.words[i];
            for (int word = 0; word < hills.counts[WORDS]; word++) {
                if (word != own) {
                    shout.words[i] = word;
                    found[chosen] = 10 * i + word;
                    if (chooseWords(chosen + 1)) {
                        return true;
                    }
                }
            }
            shout.words[i] = own;
            return false;
        }

        private boolean isYesNow() {
            for (int rank = 0; rank < hills.counts[CLIFFS]; rank++) {
                int came = ears[nearest[rank]].send(shout.words, row, 0);
                if (came > 0) {
                    return hills.isYes(row, came);
                }
            }
            return false;
        }
    }

    /** The SOUNDS, the TIME, and where one can have stood. */
    private static final class Sounds {
        private final int[] cliffs = new int[MAX_SOUNDS];
        private final int[] lengths = new int[MAX_SOUNDS];
        private final int[] came = new int[MAX_SOUNDS];
        private final int[] toldAt = new int[MAX_SOUNDS];
        private final int[] untoldAt = new int[MAX_SOUNDS];
        private final int[] left = new int[PLACES];
        private final int[] leftBy = new int[MAX_CRY + 1];
        private final int[] facts = new int[Formula.FACTS];
        int count;
        int time;
        int leftCount;
        int question;
        int mostLeft;

        void forget() {
            count = 0;
        }

        int add(int cliff, int n, int sent) {
            if (count >= MAX_SOUNDS) {
                return NONE;
            }
            int sound = count;
            cliffs[sound] = cliff;
            lengths[sound] = n;
            came[sound] = sent;
            toldAt[sound] = time;
            untoldAt[sound] = NONE;
            count++;
            return sound;
        }

        boolean takeBack(int sound) {
            if (sound < 0 || sound >= count || untoldAt[sound] != NONE) {
                return false;
            }
            untoldAt[sound] = time;
            return true;
        }

        private boolean counts(int sound, int k) {
            boolean untold = untoldAt[sound] != NONE && untoldAt[sound] <= k;
            return toldAt[sound] <= k && !untold;
        }

        private int sentTo(Hills hills, int place, int cliff, int n) {
            facts[Formula.FAR] = hills.far(cliff, place);
            facts[Formula.BLOWS] = hills.wind;
            facts[Formula.SNOW] = hills.cliffSnow[cliff];
            facts[Formula.LONG] = n;
            return hills.comes(facts);
        }

        /** Puts the places by which all that counts at k is so into left. */
        void findLeft(Hills hills, int k) {
            leftCount = 0;
            for (int place = 0; place < PLACES; place++) {
                if (canBeAt(hills, place, k)) {
                    left[leftCount] = place;
                    leftCount++;
                }
            }
        }

        private boolean canBeAt(Hills hills, int place, int k) {
            for (int sound = 0; sound < count; sound++) {
                if (counts(sound, k) && sentTo(hills, place, cliffs[sound], lengths[sound]) != came[sound]) {
                    return false;
                }
            }
            return true;
        }

        int firstLeft() {
            return leftCount > 0 ? left[0] : NONE;
        }

        int lastLeft() {
            return leftCount > 0 ? left[leftCount - 1] : NONE;
        }

        void findQuestion(Hills hills) {
            mostLeft = PLACES + 1;
            for (int cliff = 0; cliff < hills.counts[CLIFFS]; cliff++) {
                for (int n = 1; n <= MAX_CRY; n++) {
                    int most = mostLeftBehind(hills, cliff, n);
                    if (most < mostLeft) {
                        mostLeft = most;
                        question = 100 * cliff + n;
                    }
                }
            }
        }

        private int mostLeftBehind(Hills hills, int cliff, int n) {
            for (int sent = 0; sent <= n; sent++) {
                leftBy[sent] = 0;
            }
            int most = 0;
            for (int i = 0; i < leftCount; i++) {
                int sent = sentTo(hills, left[i], cliff, n);
                leftBy[sent]++;
                most = Math.max(most, leftBy[sent]);
            }
            return most;
        }
    }
}
