import java.util.ArrayList;
import java.util.HashMap;
import java.util.List;
import java.util.Map;
import java.util.Set;
import java.util.function.ToIntFunction;
import java.util.regex.Matcher;
import java.util.regex.Pattern;

/** A text of HILLS as the model reads it, with its FAULT (0: none) and that one's place. */
final class ModelHills {
    private static final Set<String> KEYS = Set.of("word", "loud", "cliff", "at", "snow", "man", "voice", "state", "yes",
        "on", "to", "back", "lost", "turn", "wind", "draw", "or", "and", "not", "far", "blows", "long", "behind", "chance");
    private static final Set<String> FACTS = Set.of("far", "blows", "snow", "long", "loud", "behind", "chance");
    private static final Pattern TOKEN = Pattern.compile("[a-z]+|[0-9]+[a-z]?|[;()<>=+*/%-]");

    private static final class Fault extends RuntimeException {
        private static final long serialVersionUID = 1L;
        final int code;
        final int place;

        Fault(int code, int place) {
            this.code = code;
            this.place = place;
        }
    }

    final List<Integer> words = new ArrayList<>();
    final List<int[]> cliffs = new ArrayList<>();
    final List<int[]> men = new ArrayList<>();
    final List<Boolean> states = new ArrayList<>();
    final Map<List<Integer>, Integer> ons = new HashMap<>();
    ToIntFunction<Map<String, Integer>> back;
    ToIntFunction<Map<String, Integer>> lost;
    ToIntFunction<Map<String, Integer>> turn;
    int wind = 0;
    int draw = 0;
    int units = 0;
    int fault = 0;
    int place = -1;

    private final Map<String, List<String>> names = new HashMap<>();
    private final List<String> once = new ArrayList<>();
    private final List<String> tokens = new ArrayList<>();
    private final List<Integer> starts = new ArrayList<>();
    private int at = 0;
    private int unitsHere;

    ModelHills(String text) {
        for (String sort : List.of("word", "cliff", "man", "state")) {
            names.put(sort, new ArrayList<>());
        }
        split(text);
        try {
            while (!peek().equals("")) {
                line();
            }
        } catch (Fault f) {
            fault = f.code;
            place = f.place;
        }
    }

    /** Tokens; "" is the end, "?" is no TOKEN. */
    private void split(String text) {
        int i = 0;
        while (i < text.length()) {
            char c = text.charAt(i);
            if (c == ' ' || c == '\n') {
                i++;
                continue;
            }
            Matcher m = TOKEN.matcher(text).region(i, text.length());
            boolean good = m.lookingAt() && m.group().matches("[a-z]{1,8}|[0-9]{1,4}|[^a-z0-9]");
            tokens.add(good ? m.group() : "?");
            starts.add(i);
            i = m.lookingAt() ? m.end() : i + 1;
        }
        tokens.add("");
        starts.add(text.length());
    }

    private String peek() {
        return tokens.get(at);
    }

    private Fault fault(int code) {
        return new Fault(peek().equals("?") ? 1 : code, starts.get(at));
    }

    private String take() {
        if (peek().equals("?") || peek().equals("")) {
            throw fault(2);
        }
        return tokens.get(at++);
    }

    private void need(String token) {
        if (!peek().equals(token)) {
            throw fault(2);
        }
        at++;
    }

    private boolean maybe(String token) {
        boolean there = peek().equals(token);
        at += there ? 1 : 0;
        return there;
    }

    private int number(int most) {
        if (!peek().matches("[0-9]+")) {
            throw fault(2);
        }
        if (Integer.parseInt(peek()) > most) {
            throw fault(4);
        }
        return Integer.parseInt(take());
    }

    private void name() {
        if (!peek().matches("[a-z]+") || KEYS.contains(peek())) {
            throw fault(2);
        }
    }

    private void newName(String sort) {
        name();
        if (names.get(sort).contains(peek())) {
            throw fault(3);
        }
        names.get(sort).add(take());
    }

    private int knownName(String sort) {
        name();
        int i = names.get(sort).indexOf(peek());
        if (i < 0) {
            throw fault(5);
        }
        return i;
    }

    private void line() {
        Map<String, Integer> most = Map.of("word", 8, "cliff", 4, "man", 4, "state", 6, "on", 30);
        String first = peek();
        if (most.containsKey(first)) {
            int there = first.equals("on") ? ons.size() : names.get(first).size();
            if (there == most.get(first)) {
                throw fault(2);
            }
        } else if (Set.of("back", "lost", "turn", "wind", "draw").contains(first)) {
            if (once.contains(first)) {
                throw fault(2);
            }
            once.add(first);
        } else {
            throw fault(2);
        }
        at++;
        switch (first) {
            case "word" -> {
                newName("word");
                words.add(maybe("loud") ? number(9) : 0);
            }
            case "cliff" -> cliffs.add(placed("cliff", "snow"));
            case "man" -> men.add(placed("man", "voice"));
            case "state" -> {
                newName("state");
                states.add(maybe("yes"));
            }
            case "on" -> on();
            case "back" -> back = formula();
            case "lost" -> lost = formula();
            case "turn" -> turn = formula();
            case "wind" -> wind = number(9);
            default -> draw = number(999);
        }
        need(";");
    }

    private int[] placed(String sort, String more) {
        newName(sort);
        need("at");
        int where = number(99);
        return new int[] {where, maybe(more) ? number(9) : 0};
    }

    private void on() {
        int from = knownName("state");
        at++;
        int word = knownName("word");
        if (ons.containsKey(List.of(from, word))) {
            throw fault(3);
        }
        at++;
        need("to");
        ons.put(List.of(from, word), knownName("state"));
        at++;
    }

    private ToIntFunction<Map<String, Integer>> formula() {
        unitsHere = 0;
        return either(0);
    }

    private ToIntFunction<Map<String, Integer>> either(int within) {
        ToIntFunction<Map<String, Integer>> all = both(within);
        while (maybe("or")) {
            ToIntFunction<Map<String, Integer>> a = all;
            ToIntFunction<Map<String, Integer>> b = both(within);
            all = f -> a.applyAsInt(f) != 0 | b.applyAsInt(f) != 0 ? 1 : 0;
        }
        return all;
    }

    private ToIntFunction<Map<String, Integer>> both(int within) {
        ToIntFunction<Map<String, Integer>> all = one(within);
        while (maybe("and")) {
            ToIntFunction<Map<String, Integer>> a = all;
            ToIntFunction<Map<String, Integer>> b = one(within);
            all = f -> a.applyAsInt(f) != 0 & b.applyAsInt(f) != 0 ? 1 : 0;
        }
        return all;
    }

    private ToIntFunction<Map<String, Integer>> one(int within) {
        if (peek().equals("not")) {
            if (within > 6) {
                throw fault(2);
            }
            at++;
            ToIntFunction<Map<String, Integer>> a = one(within + 1);
            return f -> a.applyAsInt(f) == 0 ? 1 : 0;
        }
        ToIntFunction<Map<String, Integer>> a = sum(within);
        if (!peek().matches("[<>=]")) {
            return a;
        }
        String sign = take();
        ToIntFunction<Map<String, Integer>> b = sum(within);
        return f -> {
            int how = Integer.compare(a.applyAsInt(f), b.applyAsInt(f));
            return how == "<=>".indexOf(sign) - 1 ? 1 : 0;
        };
    }

    private ToIntFunction<Map<String, Integer>> sum(int within) {
        ToIntFunction<Map<String, Integer>> all = term(within);
        while (peek().equals("+") || peek().equals("-")) {
            int by = take().equals("+") ? 1 : -1;
            ToIntFunction<Map<String, Integer>> a = all;
            ToIntFunction<Map<String, Integer>> b = term(within);
            all = f -> a.applyAsInt(f) + by * b.applyAsInt(f);
        }
        return all;
    }

    private ToIntFunction<Map<String, Integer>> term(int within) {
        ToIntFunction<Map<String, Integer>> all = unit(within);
        while (peek().matches("[*/%]")) {
            String sign = take();
            ToIntFunction<Map<String, Integer>> a = all;
            ToIntFunction<Map<String, Integer>> b = unit(within);
            all = f -> {
                int x = a.applyAsInt(f);
                int y = b.applyAsInt(f);
                if (sign.equals("*")) {
                    return x * y;
                }
                if (y == 0) {
                    return 0;
                }
                return sign.equals("/") ? x / y : x % y;
            };
        }
        return all;
    }

    private ToIntFunction<Map<String, Integer>> unit(int within) {
        String token = peek();
        if (units == 60 || unitsHere == 30) {
            throw fault(2);
        }
        if (token.matches("[0-9]+")) {
            count();
            int n = Integer.parseInt(take());
            return f -> n;
        }
        if (FACTS.contains(token)) {
            count();
            at++;
            return f -> f.getOrDefault(token, 0);
        }
        if (!token.equals("(") || within > 6) {
            throw fault(2);
        }
        count();
        at++;
        ToIntFunction<Map<String, Integer>> inner = either(within + 1);
        need(")");
        return inner;
    }

    private void count() {
        units++;
        unitsHere++;
    }
}
