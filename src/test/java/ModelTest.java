import java.util.Random;

/** Runs by chance (the same each time): every answer of the class is the model's. */
public final class ModelTest {
    private static final int RUNS = 1500;
    // A text may take 86 calls more, which makes no more than the 512 that an object is good for.
    private static final int CALLS = 425;

    private final Random random;
    private final Texts texts;
    private CliffJudges x;
    private Model m;
    private final StringBuilder told = new StringBuilder();
    private long seen = 0;
    private int wrong = 0;
    // Where one stood of whom most SOUNDS tell.
    private int place;

    private ModelTest(long seed) {
        random = new Random(seed);
        texts = new Texts(random);
    }

    public static void main(String[] args) {
        int runs = args.length > 0 ? Integer.parseInt(args[0]) : RUNS;
        long from = args.length > 1 ? Long.parseLong(args[1]) : 0;
        long seen = 0;
        int wrong = 0;
        for (int run = 0; run < runs && wrong == 0; run++) {
            ModelTest test = new ModelTest(from + run);
            test.run(run % 8 == 0 ? 8 : 4);
            seen += test.seen;
            wrong += test.wrong;
            if (test.wrong != 0) {
                System.out.println("run " + (from + run) + ":\n" + test.told);
            }
        }
        System.out.println(seen + " answers looked at, " + wrong + " wrong");
        if (wrong != 0) {
            System.exit(1);
        }
    }

    private void same(String call, int got, int want) {
        seen++;
        told.append(call).append(" ").append(got).append("\n");
        if (got != want) {
            wrong++;
            told.append(call).append(" answered ").append(got).append(", the model says ").append(want).append("\n");
        }
    }

    private void same(String call, boolean got, boolean want) {
        same(call, got ? 1 : 0, want ? 1 : 0);
    }

    private int to(int n) {
        return random.nextInt(n);
    }

    /** A number 0 .. n - 1, at times one that is not. */
    private int near(int n) {
        int how = to(40);
        if (how == 0) {
            return -1;
        }
        if (how == 1) {
            return n + to(3);
        }
        if (how == 2) {
            return random.nextBoolean() ? Integer.MIN_VALUE : Integer.MAX_VALUE;
        }
        return to(Math.max(1, n));
    }

    private void run(int mostWords) {
        x = new CliffJudges();
        m = new Model();
        place = to(100);
        if (to(20) > 0) {
            tell(texts.good(mostWords));
        }
        int wordy = to(8);
        while (seen < CALLS && wrong == 0) {
            int how = to(300);
            if (how == 0) {
                tell(texts.good(mostWords));
            } else if (how < 3) {
                tell(texts.broken(mostWords));
            } else {
                call(to(38 + wordy));
            }
        }
    }

    private void tell(String text) {
        String cut = text.length() > 1600 ? text.substring(0, 1600) : text;
        int start = m.about(14);
        for (int at = 0; at < cut.length(); at += 20) {
            int[] five = new int[5];
            for (int i = 0; i < 20; i++) {
                int sign = at + i < cut.length() ? cut.charAt(at + i) : 0;
                five[i / 4] = five[i / 4] << 8 | sign;
            }
            same("feed", x.feed(five[0], five[1], five[2], five[3], five[4]), m.feed(five));
        }
        int n = to(50) == 0 ? near(1600) : start + cut.length();
        same("end " + n, x.end(n), m.end(n));
        told.append(cut).append("\n");
        same("hills", x.hills(), m.hills());
        same("fault 0", x.fault(0), m.fault(0));
        same("fault 1", x.fault(1), m.fault(1));
        same("about 15", x.about(15), m.about(15));
    }

    private void call(int which) {
        int a;
        int b;
        int c;
        switch (which) {
            case 0, 1, 2, 3, 4 -> same("say " + (a = near(2)) + " " + (b = near(m.about(1))), x.say(a, b), m.say(a, b));
            case 5 -> same("unsay " + (a = near(2)), x.unsay(a), m.unsay(a));
            case 6 -> same("said " + (a = near(2)) + " " + (b = near(10)), x.said(a, b), m.said(a, b));
            case 7 -> same("call " + (a = near(m.about(2))), x.call(a), m.call(a));
            case 8 -> same("noon", x.noon(), m.noon());
            case 9 -> same("sweep " + (a = near(m.about(0))), x.sweep(a), m.sweep(a));
            case 10 -> {
                for (int i = to(30) == 0 ? 45 : to(4); i > 0; i--) {
                    same("undo", x.undo(), m.undo());
                }
            }
            case 11 -> {
                for (int i = to(10) == 0 ? 45 : to(4); i > 0; i--) {
                    same("redo", x.redo(), m.redo());
                }
            }
            case 12 -> same("echo " + (a = near(m.about(2))) + " " + (b = near(m.about(0))), x.echo(a, b), m.echo(a, b));
            case 13 -> same("answers " + (a = near(m.about(2))) + " " + (b = near(2)), x.answers(a, b), m.answers(a, b));
            case 14 -> same("binds " + (a = near(m.about(2))), x.binds(a), m.binds(a));
            case 15 -> same("pardon " + (a = near(m.about(2))), x.pardon(a), m.pardon(a));
            case 16 -> same("pardons " + (a = near(m.about(2))) + " " + (b = near(6)), x.pardons(a, b), m.pardons(a, b));
            case 17 -> same("ahead " + (a = near(m.about(2))) + " " + (b = near(m.about(0))) + " " + (c = near(6)),
                x.ahead(a, b, c), m.ahead(a, b, c));
            case 18 -> same("yeas " + (a = near(10)) + " " + (b = near(3)), x.yeas(a, b), m.yeas(a, b));
            case 19 -> same("clears " + (a = near(m.about(2))) + " " + (b = near(2)), x.clears(a, b), m.clears(a, b));
            case 20 -> same("rhyme " + (a = near(m.about(2))), x.rhyme(a), m.rhyme(a));
            case 21 -> same("joined " + (a = near(m.about(2))) + " " + (b = near(m.about(2))), x.joined(a, b), m.joined(a, b));
            case 22 -> same("luck " + (a = near(m.about(2))), x.luck(a), m.luck(a));
            case 23 -> same("winds " + (a = near(m.about(2))), x.winds(a), m.winds(a));
            case 24 -> same("more " + (a = near(m.about(2))), x.more(a), m.more(a));
            case 25 -> same("way " + (a = near(m.about(3))), x.way(a), m.way(a));
            case 26 -> sound();
            case 27 -> same("untell " + (a = near(m.about(12))), x.untell(a), m.untell(a));
            case 28 -> same("later " + (a = to(3) == 0 ? near(1001) : to(3)), x.later(a), m.later(a));
            case 29 -> same("stood " + (a = near(3)) + " " + (b = near(m.about(13) + 2)), x.stood(a, b), m.stood(a, b));
            case 30 -> same("ask " + (a = near(2)) + " " + (b = near(m.about(13) + 2)), x.ask(a, b), m.ask(a, b));
            case 31 -> same("image " + (a = near(3)), x.image(a), m.image(a));
            case 32 -> same("back " + (a = near(3)), x.back(a), m.back(a));
            case 33 -> same("cliff " + (a = near(m.about(0))) + " " + (b = near(2)), x.cliff(a, b), m.cliff(a, b));
            case 34 -> same("man " + (a = near(m.about(2))) + " " + (b = near(5)), x.man(a, b), m.man(a, b));
            case 35 -> same("leads " + (a = near(m.about(3))) + " " + (b = near(m.about(1))), x.leads(a, b), m.leads(a, b));
            case 36 -> same("fault " + (a = near(2)), x.fault(a), m.fault(a));
            case 37 -> same("about " + (a = near(17)), x.about(a), m.about(a));
            default -> same("say " + (a = 0) + " " + (b = near(m.about(1))), x.say(a, b), m.say(a, b));
        }
        if (which >= 12 && which <= 25) {
            lies();
        }
    }

    private void lies() {
        int count = m.about(16);
        same("about 16", x.about(16), count);
        for (int i = 0; i <= count; i++) {
            same("lies " + i, x.lies(i), m.lies(i));
        }
        int far = near(1);
        same("lies " + far, x.lies(far), m.lies(far));
    }

    private void sound() {
        int cliff = near(m.about(0));
        int n = 1 + near(10);
        int came = near(n < 1 || n > 10 ? 3 : n + 1);
        if (to(4) > 0 && cliff >= 0 && cliff < m.about(0) && n >= 1 && n <= 10) {
            came = m.sentTo(place, cliff, n);
        }
        same("sound " + cliff + " " + n + " " + came, x.sound(cliff, n, came), m.sound(cliff, n, came));
    }
}
