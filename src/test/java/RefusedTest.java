import java.util.ArrayList;
import java.util.List;
import java.util.function.Function;
import java.util.function.Supplier;
import java.util.function.ToIntFunction;

/**
 * A call that is refused does nothing, and a question changes nothing but what lies there: two objects go the same way,
 * one of them with that call in between, and all that can be seen of them is the same, then and on each way on from there.
 */
public final class RefusedTest {
    private static final Due DUE = new Due();
    private static final int LEAST = Integer.MIN_VALUE;
    private static final int MOST = Integer.MAX_VALUE;
    private static final String HILLS = "word a;word b loud 4;word c loud 9;cliff x at 10 snow 2;cliff y at 20;cliff z at 90 snow 9;man m at 13 voice 3;"
        + "man o at 15;man p at 99 voice 9;state s;state t yes;state u;on s a to t;on t b to s;on s b to u;on u c to t;"
        + "back 4-snow/3-(far>50);lost loud<4 and behind>1 or chance>70;turn far>50;wind 4;draw 5;";

    // The ways on from where an object stands; each may change it.
    private static final List<Function<CliffJudges, String>> WAYS = List.of(RefusedTest::undone, RefusedTest::redone, RefusedTest::boxed,
        RefusedTest::toldOn, RefusedTest::heard, RefusedTest::calledOn);

    private record Call(String name, ToIntFunction<CliffJudges> made) { }

    public static void main(String[] args) {
        refusedAmidAll();
        refusedByEmptyHills();
        refusedByWhatIsFull();
        refusedByWhatIsEmpty();
        layingNothing();
        faultsChangeNothingElse();
        questionsChangeNothing();
        DUE.close();
    }

    /** Something of all: ACTS done, undone, BOXES, SOUNDS told and UNTOLD, bytes on the TAPE, something that lies there. */
    private static CliffJudges amidAll() {
        CliffJudges x = DUE.hills(HILLS);
        Due.say(x, 0, 0, 1, 2, 0);
        Due.say(x, 1, 2, 1);
        x.noon();
        x.noon();
        x.call(0);
        x.call(2);
        x.image(0);
        x.sweep(0);
        x.sound(0, 5, 4);
        x.later(3);
        x.sound(1, 4, 3);
        x.untell(0);
        x.later(2);
        x.noon();
        x.image(2);
        x.unsay(0);
        x.call(1);
        x.undo();
        x.undo();
        x.feed(0x776f7264, 0x20713b63, 0x6c696666, 0x20712061, 0x74203720);
        x.feed(0x736e6f77, 0x20333b77, 0x696e6420, 0x383b2020, 0x20202020);
        x.echo(0, 0);
        return x;
    }

    private static String undone(CliffJudges x) {
        StringBuilder all = new StringBuilder();
        for (int i = 0; i < 8 && x.undo(); i++) {
            all.append(Seen.earnest(x));
        }
        int more = 0;
        while (more < 50 && x.undo()) {
            more++;
        }
        return all.append(Seen.earnest(x)).append(more).toString();
    }

    private static String redone(CliffJudges x) {
        StringBuilder all = new StringBuilder();
        for (int i = 0; i < 8 && x.redo(); i++) {
            all.append(Seen.earnest(x));
        }
        return all.append(Seen.earnest(x)).toString();
    }

    private static String boxed(CliffJudges x) {
        StringBuilder all = new StringBuilder();
        for (int box = 0; box < 3; box++) {
            all.append(x.back(box)).append('\n').append(Seen.earnest(x));
        }
        return all.toString();
    }

    private static String toldOn(CliffJudges x) {
        return x.hills() + "\n" + Seen.told(x) + Seen.earnest(x);
    }

    private static String heard(CliffJudges x) {
        StringBuilder all = new StringBuilder();
        for (int sound = 0; sound < 30; sound++) {
            all.append(x.untell(sound) ? 1 : 0);
        }
        for (int k = 0; k < 7; k++) {
            all.append(' ').append(x.stood(0, k)).append(',').append(x.stood(1, k)).append(',').append(x.ask(0, k));
        }
        return all.append(' ').append(x.sound(0, 1, 1)).append(' ').append(x.later(1)).toString();
    }

    private static String calledOn(CliffJudges x) {
        StringBuilder all = new StringBuilder();
        for (int man = 0; man < 3; man++) {
            all.append(x.call(man)).append(' ').append(x.luck(man)).append(' ').append(x.winds(man)).append(' ');
        }
        return all.append(x.noon()).append('\n').append(Seen.earnest(x)).toString();
    }

    /** Whether what lies there stays too; if not, nothing may lie there behind NONE. */
    private static void same(String where, Supplier<CliffJudges> start, Call call, boolean lyingStays) {
        CliffJudges with = start.get();
        CliffJudges without = start.get();
        call.made.applyAsInt(with);
        String what = where + ", behind " + call.name;
        if (lyingStays) {
            DUE.same(what + ": what lies there", Seen.lying(with), Seen.lying(without));
        }
        DUE.same(what + ": what is told", Seen.told(with), Seen.told(without));
        DUE.same(what + ": what is in earnest", Seen.earnest(with), Seen.earnest(without));
        for (Function<CliffJudges, String> way : WAYS) {
            with = start.get();
            without = start.get();
            call.made.applyAsInt(with);
            DUE.same(what + ": from there on", way.apply(with), way.apply(without));
        }
    }

    private static void refused(String where, Supplier<CliffJudges> start, List<Call> calls) {
        for (Call call : calls) {
            DUE.same(where + ": " + call.name, call.made.applyAsInt(start.get()), -1);
            same(where, start, call, true);
        }
    }

    private static Call of(String name, ToIntFunction<CliffJudges> made) {
        return new Call(name, made);
    }

    private static Call ofBoolean(String name, Function<CliffJudges, Boolean> made) {
        return new Call(name, x -> made.apply(x) ? 1 : -1);
    }

    /** The numbers next to least .. most, and those farthest off. */
    private static int[] beside(int least, int most) {
        return new int[] {least - 1, most + 1, LEAST, MOST};
    }

    private static void refusedAmidAll() {
        List<Call> calls = new ArrayList<>();
        for (int n : beside(0, 40)) {
            calls.add(of("end " + n, x -> x.end(n)));
        }
        for (int cry : beside(0, 1)) {
            calls.add(of("say " + cry + " 0", x -> x.say(cry, 0)));
            calls.add(of("unsay " + cry, x -> x.unsay(cry)));
            calls.add(of("said " + cry + " 0", x -> x.said(cry, 0)));
            calls.add(of("fault " + cry, x -> x.fault(cry)));
            calls.add(of("cliff 0 " + cry, x -> x.cliff(0, cry)));
            calls.add(of("answers 0 " + cry, x -> x.answers(0, cry)));
            calls.add(of("clears 0 " + cry, x -> x.clears(0, cry)));
            calls.add(of("ask " + cry + " 5", x -> x.ask(cry, 5)));
        }
        for (int three : beside(0, 2)) {
            calls.add(of("say 0 " + three, x -> x.say(0, three)));
            calls.add(of("call " + three, x -> x.call(three)));
            calls.add(of("sweep " + three, x -> x.sweep(three)));
            calls.add(of("cliff " + three + " 1", x -> x.cliff(three, 1)));
            calls.add(of("man " + three + " 2", x -> x.man(three, 2)));
            calls.add(of("leads " + three + " 0", x -> x.leads(three, 0)));
            calls.add(of("leads 0 " + three, x -> x.leads(0, three)));
            calls.add(of("answers " + three + " 0", x -> x.answers(three, 0)));
            calls.add(of("binds " + three, x -> x.binds(three)));
            calls.add(of("pardons " + three + " 1", x -> x.pardons(three, 1)));
            calls.add(of("clears " + three + " 0", x -> x.clears(three, 0)));
            calls.add(of("joined " + three + " 0", x -> x.joined(three, 0)));
            calls.add(of("joined 0 " + three, x -> x.joined(0, three)));
            calls.add(of("luck " + three, x -> x.luck(three)));
            calls.add(of("winds " + three, x -> x.winds(three)));
            calls.add(of("more " + three, x -> x.more(three)));
            calls.add(of("sound " + three + " 1 1", x -> x.sound(three, 1, 1)));
            calls.add(of("image " + three, x -> x.image(three)));
            calls.add(of("back " + three, x -> x.back(three)));
            calls.add(of("yeas 0 " + three, x -> x.yeas(0, three)));
            calls.add(of("stood " + three + " 5", x -> x.stood(three, 5)));
        }
        addOthers(calls);
        refused("amid all", RefusedTest::amidAll, calls);
    }

    private static void addOthers(List<Call> calls) {
        for (int n : beside(1, 5)) {
            calls.add(of("pardons 0 " + n, x -> x.pardons(0, n)));
        }
        for (int n : beside(1, 10)) {
            calls.add(of("sound 0 " + n + " 1", x -> x.sound(0, n, 1)));
        }
        for (int came : beside(0, 7)) {
            calls.add(of("sound 0 7 " + came, x -> x.sound(0, 7, came)));
        }
        for (int sound : beside(0, 1)) {
            calls.add(ofBoolean("untell " + sound, x -> x.untell(sound)));
        }
        for (int by : beside(0, 1000)) {
            calls.add(of("later " + by, x -> x.later(by)));
        }
        for (int voice : beside(0, 9)) {
            calls.add(of("yeas " + voice + " 0", x -> x.yeas(voice, 0)));
        }
        for (int what : beside(0, 4)) {
            calls.add(of("man 0 " + what, x -> x.man(0, what)));
        }
        for (int what : beside(0, 16)) {
            calls.add(of("about " + what, x -> x.about(what)));
        }
        calls.add(ofBoolean("untell 0, which is so already", x -> x.untell(0)));
        calls.add(of("back 1, which is empty", x -> x.back(1)));
        calls.add(of("joined 1 1", x -> x.joined(1, 1)));
        calls.add(of("joined 2 2", x -> x.joined(2, 2)));
        calls.add(of("lies 4", x -> x.lies(4)));
        calls.add(of("said 0 4", x -> x.said(0, 4)));
    }

    /** All that is refused where nothing was told. */
    private static void refusedByEmptyHills() {
        List<Call> calls = List.of(of("say", x -> x.say(0, 0)), of("unsay", x -> x.unsay(0)), of("call", x -> x.call(0)), of("sweep", x -> x.sweep(0)),
            of("sound", x -> x.sound(0, 1, 1)), of("ask", x -> x.ask(0, 0)), of("answers", x -> x.answers(0, 0)), of("binds", x -> x.binds(0)),
            of("pardon", x -> x.pardon(0)), of("pardons", x -> x.pardons(0, 1)), of("ahead", x -> x.ahead(0, 0, 1)), of("clears", x -> x.clears(0, 0)),
            of("rhyme", x -> x.rhyme(0)), of("joined", x -> x.joined(0, 1)), of("luck", x -> x.luck(0)), of("winds", x -> x.winds(0)),
            of("more", x -> x.more(0)), of("way", x -> x.way(0)), of("echo", x -> x.echo(0, 0)), of("lies", x -> x.lies(0)), of("back", x -> x.back(0)),
            of("leads", x -> x.leads(0, 0)), of("cliff", x -> x.cliff(0, 0)), of("man", x -> x.man(0, 0)), of("end", x -> x.end(1)),
            ofBoolean("undo", x -> x.undo()), ofBoolean("redo", x -> x.redo()), ofBoolean("untell", x -> x.untell(0)));
        refused("empty hills", CliffJudges::new, calls);
        refused("empty hills, a NOON undone", () -> {
            CliffJudges x = new CliffJudges();
            x.noon();
            x.noon();
            x.undo();
            return x;
        }, calls.subList(0, calls.size() - 3));
    }

    private static CliffJudges full() {
        CliffJudges x = DUE.hills(HILLS);
        for (int i = 0; i < 10; i++) {
            x.say(0, i % 3);
            x.say(1, 2 - i % 3);
        }
        for (int i = 0; i < 22; i++) {
            x.sweep(i % 3);
        }
        x.undo();
        for (int i = 0; i < 30; i++) {
            x.sound(1, 10, 4);
        }
        for (int i = 0; i < 100; i++) {
            x.later(1000);
        }
        for (int i = 0; i < 80; i++) {
            x.feed(0x20202020, 0x20202020, 0x20202020, 0x20202020, 0x20202020);
        }
        return x;
    }

    private static void refusedByWhatIsFull() {
        List<Call> calls = List.of(of("feed", x -> x.feed(0, 0, 0, 0, 0)), of("say 0", x -> x.say(0, 0)), of("say 1", x -> x.say(1, 2)),
            of("sound", x -> x.sound(0, 1, 1)), of("later 1", x -> x.later(1)), of("later 1000", x -> x.later(1000)), of("end 1601", x -> x.end(1601)));
        refused("what is full", RefusedTest::full, calls);
        for (int bytes : new int[] {1581, 1599}) {
            refused("a TAPE of " + bytes, () -> {
                CliffJudges x = full();
                x.end(bytes);
                return x;
            }, List.of(of("feed", x -> x.feed(0x23232323, 0, 0, 0, 0)), of("end", x -> x.end(bytes + 1))));
        }
    }

    private static void refusedByWhatIsEmpty() {
        Supplier<CliffJudges> empty = () -> {
            CliffJudges x = DUE.hills(HILLS);
            x.noon();
            x.noon();
            x.undo();
            x.later(1);
            return x;
        };
        refused("empty CRIES", empty, List.of(of("unsay 0", x -> x.unsay(0)), of("unsay 1", x -> x.unsay(1)), ofBoolean("untell 0", x -> x.untell(0)),
            of("back 0", x -> x.back(0)), of("binds 0", x -> x.binds(0)), of("clears", x -> x.clears(0, 0))));
        Supplier<CliffJudges> done = () -> {
            CliffJudges x = DUE.hills(HILLS);
            Due.say(x, 0, 1, 2);
            x.echo(0, 0);
            return x;
        };
        refused("none was undone", done, List.of(ofBoolean("redo", x -> x.redo())));
        Supplier<CliffJudges> undone = () -> {
            CliffJudges x = done.get();
            x.undo();
            x.undo();
            return x;
        };
        refused("all is undone", undone, List.of(ofBoolean("undo", x -> x.undo()), of("unsay", x -> x.unsay(0))));
    }

    /** "They lie there then (behind NONE: nothing)": all else is as it was. */
    private static void layingNothing() {
        List<Call> calls = new ArrayList<>();
        for (int three : beside(0, 2)) {
            calls.add(of("echo " + three + " 0", x -> x.echo(three, 0)));
            calls.add(of("echo 0 " + three, x -> x.echo(0, three)));
            calls.add(of("pardon " + three, x -> x.pardon(three)));
            calls.add(of("ahead " + three + " 0 1", x -> x.ahead(three, 0, 1)));
            calls.add(of("ahead 0 " + three + " 1", x -> x.ahead(0, three, 1)));
            calls.add(of("rhyme " + three, x -> x.rhyme(three)));
            calls.add(of("way " + three, x -> x.way(three)));
        }
        for (int n : beside(1, 5)) {
            calls.add(of("ahead 0 0 " + n, x -> x.ahead(0, 0, n)));
        }
        for (Call call : calls) {
            CliffJudges x = amidAll();
            DUE.yes(call.name + ": something lay there", x.about(16) > 0);
            DUE.same(call.name, call.made.applyAsInt(x), -1);
            DUE.lie(call.name + ": behind NONE nothing", x);
            same("amid all", RefusedTest::amidAll, call, false);
        }
    }

    /** Promise 4: "NONE: a FAULT (all stays)", but for the TAPE, which is empty, and what fault() tells. */
    private static void faultsChangeNothingElse() {
        String[] faults = {"#", ";", "word q;word q;", "wind 10;", "on q q to q;", HILLS + "back 1;", HILLS + "#", HILLS.substring(0, HILLS.length() - 1)};
        for (String text : faults) {
            CliffJudges with = amidAll();
            with.end(0);
            DUE.same("4: a FAULT in " + text, Due.tell(with, text), -1);
            CliffJudges without = amidAll();
            without.end(0);
            DUE.same("4: what lies there", Seen.lying(with), Seen.lying(without));
            DUE.same("4: what is in earnest", Seen.earnest(with), Seen.earnest(without));
            DUE.same("4: what is told", Seen.told(with).replaceAll("FAULT: .*", ""), Seen.told(without).replaceAll("FAULT: .*", ""));
            for (Function<CliffJudges, String> way : WAYS) {
                with = amidAll();
                with.end(0);
                Due.tell(with, text);
                without = amidAll();
                without.end(0);
                DUE.same("4: from there on", way.apply(with), way.apply(without));
            }
        }
    }

    /** "By what is now; nothing is done": each question that is answered. */
    private static void questionsChangeNothing() {
        List<Call> laying = List.of(of("echo 0 2", x -> x.echo(0, 2)), of("echo 2 0", x -> x.echo(2, 0)), of("pardon 0", x -> x.pardon(0)),
            of("ahead 0 1 5", x -> x.ahead(0, 1, 5)), of("ahead 2 2 3", x -> x.ahead(2, 2, 3)), of("rhyme 0", x -> x.rhyme(0)), of("rhyme 1", x -> x.rhyme(1)),
            of("rhyme 2", x -> x.rhyme(2)), of("way 2", x -> x.way(2)), of("way 0", x -> x.way(0)));
        for (Call call : laying) {
            same("amid all", RefusedTest::amidAll, call, false);
        }
        List<Call> others = List.of(of("answers 0 0", x -> x.answers(0, 0)), of("answers 0 1", x -> x.answers(0, 1)), of("binds 0", x -> x.binds(0)),
            of("pardons 0 5", x -> x.pardons(0, 5)), of("yeas 3 0", x -> x.yeas(3, 0)), of("clears 0 0", x -> x.clears(0, 0)),
            of("clears 1 1", x -> x.clears(1, 1)), of("joined 0 1", x -> x.joined(0, 1)), of("luck 0", x -> x.luck(0)), of("winds 0", x -> x.winds(0)),
            of("more 0", x -> x.more(0)), of("lies 0", x -> x.lies(0)), of("stood 0 5", x -> x.stood(0, 5)), of("ask 0 5", x -> x.ask(0, 5)),
            of("fault 0", x -> x.fault(0)), of("said 0 0", x -> x.said(0, 0)), of("leads 0 0", x -> x.leads(0, 0)), of("later 0", x -> x.later(0)),
            of("end 40", x -> x.end(40)));
        for (Call call : others) {
            same("amid all", RefusedTest::amidAll, call, true);
        }
    }
}
