import java.util.ArrayDeque;
import java.util.ArrayList;
import java.util.Arrays;
import java.util.Collections;
import java.util.Deque;
import java.util.HashMap;
import java.util.List;
import java.util.Map;
import java.util.function.Predicate;

/** The document told a second time, by trying everything out: slow, and without the class's ways. */
final class Model {
    private static final int NONE = -1;

    /** In earnest: what ACTS change. */
    private static final class Now {
        final List<List<Integer>> cries = List.of(new ArrayList<>(), new ArrayList<>());
        int wind;
        int seed;
        int noons;
        int[] snow = new int[4];
        int[][] verdicts = new int[4][3];

        Now copy() {
            Now c = new Now();
            c.cries.get(0).addAll(cries.get(0));
            c.cries.get(1).addAll(cries.get(1));
            c.wind = wind;
            c.seed = seed;
            c.noons = noons;
            c.snow = snow.clone();
            for (int i = 0; i < 4; i++) {
                c.verdicts[i] = verdicts[i].clone();
            }
            return c;
        }
    }

    private record Sound(int cliff, int n, int came, int told, int[] untold) { }

    /** Who calls, and by what: the snow is by CLIFF. */
    private record Caller(int place, int voice, int wind, int[] snow, int chance) { }

    private final StringBuilder tape = new StringBuilder();
    private ModelHills h = new ModelHills("");
    private int faultCode = 0;
    private int faultPlace = NONE;
    private Now now = new Now();
    private final Deque<Now> past = new ArrayDeque<>();
    private final Deque<Now> future = new ArrayDeque<>();
    private final Map<Integer, Now> boxes = new HashMap<>();
    private final List<Sound> sounds = new ArrayList<>();
    private List<Integer> lying = List.of();
    private int time = 0;

    // ---- the text

    int feed(int... five) {
        if (tape.length() + 20 > 1600) {
            return NONE;
        }
        for (int f : five) {
            for (int shift = 24; shift >= 0; shift -= 8) {
                tape.append((char) (f >>> shift & 255));
            }
        }
        return tape.length();
    }

    int end(int n) {
        if (n < 0 || n > tape.length()) {
            return NONE;
        }
        tape.setLength(n);
        return n;
    }

    int hills() {
        ModelHills read = new ModelHills(tape.toString());
        tape.setLength(0);
        faultCode = read.fault;
        faultPlace = read.place;
        if (read.fault != 0) {
            return NONE;
        }
        h = read;
        now = new Now();
        now.wind = h.wind;
        now.seed = h.draw;
        for (int c = 0; c < h.cliffs.size(); c++) {
            now.snow[c] = h.cliffs.get(c)[1];
        }
        past.clear();
        future.clear();
        boxes.clear();
        sounds.clear();
        lying = List.of();
        return h.cliffs.size();
    }

    int fault(int what) {
        return what == 0 ? faultCode : what == 1 ? faultPlace : NONE;
    }

    // ---- what is

    private boolean noMan(int man) {
        return man < 0 || man >= h.men.size();
    }

    private boolean noCliff(int cliff) {
        return cliff < 0 || cliff >= h.cliffs.size();
    }

    private boolean noWord(int word) {
        return word < 0 || word >= h.words.size();
    }

    private boolean noState(int state) {
        return state < 0 || state >= h.states.size();
    }

    int cliff(int cliff, int what) {
        if (noCliff(cliff) || what < 0 || what > 1) {
            return NONE;
        }
        return what == 0 ? h.cliffs.get(cliff)[0] : now.snow[cliff];
    }

    int man(int man, int what) {
        if (noMan(man) || what < 0 || what > 4) {
            return NONE;
        }
        return what < 2 ? h.men.get(man)[what] : now.verdicts[man][what - 2];
    }

    int leads(int state, int word) {
        return noState(state) || noWord(word) ? NONE : step(state, word);
    }

    private int step(int state, int word) {
        return h.ons.getOrDefault(List.of(state, word), state);
    }

    int said(int cry, int i) {
        if (cry < 0 || cry > 1 || i < 0 || i >= now.cries.get(cry).size()) {
            return NONE;
        }
        return now.cries.get(cry).get(i);
    }

    // ---- ACTS

    private void act() {
        past.addLast(now.copy());
        if (past.size() > 40) {
            past.removeFirst();
        }
        future.clear();
    }

    int say(int cry, int word) {
        if (cry < 0 || cry > 1 || noWord(word) || now.cries.get(cry).size() == 10) {
            return NONE;
        }
        act();
        now.cries.get(cry).add(word);
        return now.cries.get(cry).size();
    }

    int unsay(int cry) {
        if (cry < 0 || cry > 1 || now.cries.get(cry).isEmpty()) {
            return NONE;
        }
        act();
        return now.cries.get(cry).remove(now.cries.get(cry).size() - 1);
    }

    int call(int man) {
        if (noMan(man)) {
            return NONE;
        }
        act();
        int verdict = verdict(caller(man), now.cries.get(0));
        now.verdicts[man][2 - verdict]++;
        return verdict;
    }

    int noon() {
        if (now.noons == 999) {
            return NONE;
        }
        act();
        now.noons++;
        now.seed = (now.seed * 137 + 71) % 1000;
        now.wind = now.seed % 10;
        if ((now.seed / 10) % 2 == 0) {
            for (int c = 0; c < h.cliffs.size(); c++) {
                if (now.snow[c] < 9) {
                    now.snow[c]++;
                }
            }
        }
        return now.wind;
    }

    int sweep(int cliff) {
        if (noCliff(cliff)) {
            return NONE;
        }
        act();
        int had = now.snow[cliff];
        now.snow[cliff] = 0;
        return had;
    }

    boolean undo() {
        if (past.isEmpty()) {
            return false;
        }
        future.addLast(now);
        now = past.removeLast();
        return true;
    }

    boolean redo() {
        if (future.isEmpty()) {
            return false;
        }
        past.addLast(now);
        now = future.removeLast();
        return true;
    }

    // ---- the ECHO and the VERDICT

    private Caller caller(int man) {
        return new Caller(h.men.get(man)[0], h.men.get(man)[1], now.wind, now.snow, 0);
    }

    private int sent(int far, int wind, int snow, int n) {
        int value = 3;
        if (h.back != null) {
            value = h.back.applyAsInt(Map.of("far", far, "blows", wind, "snow", snow, "long", n));
        }
        return value < 0 ? 0 : value > n ? n : value;
    }

    private List<Integer> echo(Caller by, List<Integer> cry, int cliff) {
        int far = Math.abs(by.place - h.cliffs.get(cliff)[0]);
        int n = cry.size();
        List<Integer> came = new ArrayList<>();
        for (int i = n - sent(far, by.wind, by.snow[cliff], n); i < n; i++) {
            Map<String, Integer> facts = Map.of("far", far, "blows", by.wind, "snow", by.snow[cliff], "long", n,
                "loud", h.words.get(cry.get(i)) + by.voice, "behind", n - 1 - i, "chance", by.chance);
            if (h.lost == null || h.lost.applyAsInt(facts) == 0) {
                came.add(cry.get(i));
            }
        }
        Map<String, Integer> facts = Map.of("far", far, "blows", by.wind, "snow", by.snow[cliff], "long", n);
        if (h.turn != null && h.turn.applyAsInt(facts) != 0) {
            Collections.reverse(came);
        }
        return came;
    }

    private boolean yes(List<Integer> row) {
        if (h.states.isEmpty()) {
            return false;
        }
        int state = 0;
        for (int word : row) {
            state = step(state, word);
        }
        return h.states.get(state);
    }

    private int nearest(int place, List<List<Integer>> rows) {
        int best = NONE;
        for (int far = 0; far < 100 && best == NONE; far++) {
            for (int c = 0; c < rows.size() && best == NONE; c++) {
                if (Math.abs(place - h.cliffs.get(c)[0]) == far && !rows.get(c).isEmpty()) {
                    best = c;
                }
            }
        }
        return best;
    }

    private List<List<Integer>> echoes(Caller by, List<Integer> cry) {
        List<List<Integer>> rows = new ArrayList<>();
        for (int c = 0; c < h.cliffs.size(); c++) {
            rows.add(echo(by, cry, c));
        }
        return rows;
    }

    private int verdict(Caller by, List<Integer> cry) {
        return verdict(by.place, echoes(by, cry));
    }

    private int verdict(int place, List<List<Integer>> rows) {
        int best = nearest(place, rows);
        return best == NONE ? 0 : yes(rows.get(best)) ? 2 : 1;
    }

    int echo(int man, int cliff) {
        lying = List.of();
        if (noMan(man) || noCliff(cliff)) {
            return NONE;
        }
        lying = echo(caller(man), now.cries.get(0), cliff);
        return lying.size();
    }

    int answers(int man, int what) {
        if (noMan(man) || what < 0 || what > 1) {
            return NONE;
        }
        int bits = 0;
        List<List<Integer>> rows = echoes(caller(man), now.cries.get(0));
        for (int c = 0; c < rows.size(); c++) {
            bits |= (what == 0 ? !rows.get(c).isEmpty() : yes(rows.get(c))) ? 1 << c : 0;
        }
        return bits;
    }

    int binds(int man) {
        return noMan(man) ? NONE : nearest(caller(man).place, echoes(caller(man), now.cries.get(0)));
    }

    // ---- searches, each by trying all CRIES in their order

    private List<List<Integer>> cries(int n, Predicate<List<Integer>> good) {
        List<List<Integer>> found = new ArrayList<>();
        int words = h.words.size();
        long all = 1;
        for (int i = 0; i < n; i++) {
            all *= words;
        }
        for (long number = 0; number < all; number++) {
            Integer[] cry = new Integer[n];
            long rest = number;
            for (int i = n - 1; i >= 0; i--) {
                cry[i] = (int) (rest % words);
                rest /= words;
            }
            if (good.test(Arrays.asList(cry))) {
                found.add(Arrays.asList(cry));
            }
        }
        return found;
    }

    private boolean isPardon(Caller by, List<Integer> cry) {
        for (List<Integer> row : echoes(by, cry)) {
            if (row.isEmpty() || !yes(row)) {
                return false;
            }
        }
        return true;
    }

    int pardon(int man) {
        lying = List.of();
        if (noMan(man) || h.cliffs.isEmpty()) {
            return NONE;
        }
        for (int n = 0; n <= 5; n++) {
            List<List<Integer>> found = cries(n, cry -> isPardon(caller(man), cry));
            if (!found.isEmpty()) {
                lying = found.get(0);
                return n;
            }
        }
        return NONE;
    }

    int pardons(int man, int n) {
        if (noMan(man) || h.cliffs.isEmpty() || n < 1 || n > 5) {
            return NONE;
        }
        return cries(n, cry -> isPardon(caller(man), cry)).size();
    }

    int ahead(int man, int cliff, int n) {
        lying = List.of();
        if (noMan(man) || noCliff(cliff) || n < 1 || n > 5) {
            return NONE;
        }
        List<List<Integer>> found = cries(n, cry -> echo(caller(man), cry, cliff).equals(now.cries.get(1)));
        if (!found.isEmpty()) {
            lying = found.get(0);
        }
        return found.size();
    }

    private static int pick(int what, List<Integer> places) {
        if (what == 0) {
            return places.size();
        }
        if (places.isEmpty()) {
            return NONE;
        }
        return what == 1 ? places.get(0) : places.get(places.size() - 1);
    }

    int yeas(int voice, int what) {
        if (voice < 0 || voice > 9 || what < 0 || what > 2) {
            return NONE;
        }
        List<Integer> places = new ArrayList<>();
        for (int place = 0; place < 100; place++) {
            if (verdict(new Caller(place, voice, now.wind, now.snow, 0), now.cries.get(0)) == 2) {
                places.add(place);
            }
        }
        return pick(what, places);
    }

    int clears(int man, int what) {
        if (noMan(man) || what < 0 || what > 1) {
            return NONE;
        }
        int best = NONE;
        for (int bits = 0; bits < 1 << h.cliffs.size(); bits++) {
            int[] snow = now.snow.clone();
            for (int c = 0; c < 4; c++) {
                snow[c] = (bits >> c & 1) != 0 ? 0 : snow[c];
            }
            Caller by = caller(man);
            boolean good = verdict(new Caller(by.place, by.voice, by.wind, snow, 0), now.cries.get(0)) == 2;
            if (good && (best == NONE || Integer.bitCount(bits) < Integer.bitCount(best))) {
                best = bits;
            }
        }
        return best == NONE ? NONE : what == 0 ? Integer.bitCount(best) : best;
    }

    int rhyme(int man) {
        lying = List.of();
        if (noMan(man)) {
            return NONE;
        }
        List<Integer> cry = now.cries.get(0);
        for (int size = 0; size <= 3; size++) {
            List<int[]> chosen = new ArrayList<>();
            places(cry.size(), size, 0, new ArrayList<>(), chosen);
            for (int[] places : chosen) {
                List<List<Integer>> found = cries(size, words -> isRhyme(man, places, words));
                if (!found.isEmpty()) {
                    lying = new ArrayList<>();
                    for (int i = 0; i < size; i++) {
                        lying.add(10 * places[i] + found.get(0).get(i));
                    }
                    return size;
                }
            }
        }
        return NONE;
    }

    private boolean isRhyme(int man, int[] places, List<Integer> words) {
        List<Integer> cry = new ArrayList<>(now.cries.get(0));
        for (int i = 0; i < places.length; i++) {
            if (cry.get(places[i]).equals(words.get(i))) {
                return false;
            }
            cry.set(places[i], words.get(i));
        }
        return verdict(caller(man), cry) == 2;
    }

    private static void places(int n, int size, int from, List<Integer> so, List<int[]> into) {
        if (so.size() == size) {
            into.add(so.stream().mapToInt(i -> i).toArray());
            return;
        }
        for (int i = from; i < n; i++) {
            List<Integer> more = new ArrayList<>(so);
            more.add(i);
            places(n, size, i + 1, more, into);
        }
    }

    int joined(int man, int other) {
        if (noMan(man) || noMan(other) || man == other) {
            return NONE;
        }
        List<List<Integer>> rows = echoes(caller(man), now.cries.get(0));
        List<List<Integer>> behind = echoes(caller(other), now.cries.get(1));
        for (int c = 0; c < rows.size(); c++) {
            rows.get(c).addAll(behind.get(c));
        }
        return verdict(caller(man).place, rows);
    }

    int luck(int man) {
        if (noMan(man)) {
            return NONE;
        }
        int count = 0;
        for (int chance = 0; chance < 100; chance++) {
            Caller by = new Caller(h.men.get(man)[0], h.men.get(man)[1], now.wind, now.snow, chance);
            count += verdict(by, now.cries.get(0)) == 2 ? 1 : 0;
        }
        return count;
    }

    int winds(int man) {
        if (noMan(man)) {
            return NONE;
        }
        int bits = 0;
        for (int wind = 0; wind < 10; wind++) {
            Caller by = new Caller(h.men.get(man)[0], h.men.get(man)[1], wind, now.snow, 0);
            bits |= verdict(by, now.cries.get(0)) == 2 ? 1 << wind : 0;
        }
        return bits;
    }

    int more(int man) {
        if (noMan(man)) {
            return NONE;
        }
        int bits = 0;
        for (int word = 0; word < h.words.size() && now.cries.get(0).size() < 10; word++) {
            List<Integer> cry = new ArrayList<>(now.cries.get(0));
            cry.add(word);
            bits |= verdict(caller(man), cry) == 2 ? 1 << word : 0;
        }
        return bits;
    }

    int way(int state) {
        lying = List.of();
        if (noState(state)) {
            return NONE;
        }
        for (int n = 0; n <= 5; n++) {
            List<List<Integer>> found = cries(n, row -> {
                int at = 0;
                for (int word : row) {
                    at = step(at, word);
                }
                return at == state;
            });
            if (!found.isEmpty()) {
                lying = found.get(0);
                return n;
            }
        }
        return NONE;
    }

    int lies(int i) {
        return i < 0 || i >= lying.size() ? NONE : lying.get(i);
    }

    // ---- SOUNDS

    int sound(int cliff, int n, int came) {
        if (noCliff(cliff) || n < 1 || n > 10 || came < 0 || came > n || sounds.size() == 30) {
            return NONE;
        }
        sounds.add(new Sound(cliff, n, came, time, new int[] {NONE}));
        return sounds.size() - 1;
    }

    boolean untell(int sound) {
        if (sound < 0 || sound >= sounds.size() || sounds.get(sound).untold[0] != NONE) {
            return false;
        }
        sounds.get(sound).untold[0] = time;
        return true;
    }

    int later(int by) {
        if (by < 0 || by > 1000 || time + by > 100000) {
            return NONE;
        }
        time += by;
        return time;
    }

    int sentTo(int place, int cliff, int n) {
        return sent(Math.abs(place - h.cliffs.get(cliff)[0]), h.wind, h.cliffs.get(cliff)[1], n);
    }

    private List<Integer> left(int k) {
        List<Integer> places = new ArrayList<>();
        for (int place = 0; place < 100; place++) {
            boolean good = true;
            for (Sound s : sounds) {
                boolean gone = s.untold[0] != NONE && s.untold[0] <= k;
                if (s.told <= k && !gone) {
                    good &= sentTo(place, s.cliff, s.n) == s.came;
                }
            }
            if (good) {
                places.add(place);
            }
        }
        return places;
    }

    int stood(int what, int k) {
        return what < 0 || what > 2 ? NONE : pick(what, left(k));
    }

    int ask(int what, int k) {
        List<Integer> places = left(k);
        if (what < 0 || what > 1 || places.isEmpty()) {
            return NONE;
        }
        int best = NONE;
        int fewest = 101;
        for (int c = 0; c < h.cliffs.size(); c++) {
            for (int n = 1; n <= 10; n++) {
                Map<Integer, Integer> by = new HashMap<>();
                for (int place : places) {
                    by.merge(sentTo(place, c, n), 1, Integer::sum);
                }
                int most = Collections.max(by.values());
                if (most < fewest) {
                    fewest = most;
                    best = 100 * c + n;
                }
            }
        }
        return best == NONE ? NONE : what == 0 ? best : fewest;
    }

    // ---- images, about

    int image(int box) {
        if (box < 0 || box > 2) {
            return NONE;
        }
        boxes.put(box, now.copy());
        return now.noons;
    }

    int back(int box) {
        if (!boxes.containsKey(box)) {
            return NONE;
        }
        now = boxes.get(box).copy();
        past.clear();
        future.clear();
        return now.noons;
    }

    int about(int what) {
        int[] all = {h.cliffs.size(), h.words.size(), h.men.size(), h.states.size(), h.ons.size(), now.wind, now.seed,
            now.noons, now.cries.get(0).size(), now.cries.get(1).size(), past.size(), future.size(), sounds.size(), time,
            tape.length(), h.units, lying.size()};
        return what < 0 || what >= all.length ? NONE : all[what];
    }
}
