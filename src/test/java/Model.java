import java.math.BigInteger;
import java.util.ArrayList;
import java.util.HashMap;
import java.util.List;
import java.util.Map;
import java.util.TreeMap;
import java.util.TreeSet;
import java.util.function.ToIntFunction;

/**
 * The document once more, by other means than the program's: trees of functions for texts, classes for kinds,
 * rows of words as strings that are compared, sets for cells. Slow, and for tests alone.
 */
final class Model {
    private static final int NONE = -1, BAD = -2, STATE = -3, FULL = -4;
    private static final long NO = -4611686018427387904L;

    static class Rug {
        int east(int v, int w, int number, int night) {
            return v;
        }

        int south(int v, int w) {
            return v;
        }

        int rises(int v, int k) {
            return v + k;
        }
    }

    static class Runner extends Rug {
        @Override int east(int v, int w, int number, int night) {
            return 2 * super.east(v, w, number, night);
        }

        @Override int rises(int v, int k) {
            return super.rises(v, k) + 2;
        }
    }

    static class Mat extends Rug {
        @Override int east(int v, int w, int number, int night) {
            return w % 2 == 1 ? 0 : super.east(v, w, number, night);
        }

        @Override int south(int v, int w) {
            return super.south(v, w) + 1;
        }

        @Override int rises(int v, int k) {
            return v;
        }
    }

    static final class Persian extends Runner {
        @Override int east(int v, int w, int number, int night) {
            return super.east(v, w, number, night) + number % 3;
        }

        @Override int south(int v, int w) {
            return w > 5 ? 0 - super.south(v, w) : super.south(v, w);
        }

        @Override int rises(int v, int k) {
            return 2 * super.rises(v, k);
        }
    }

    static final class Doormat extends Mat {
        @Override int east(int v, int w, int number, int night) {
            return night % 2 == 1 ? 0 : super.east(v, w, number, night);
        }

        @Override int rises(int v, int k) {
            return 0;
        }
    }

    static final class Felt extends Rug {
        @Override int east(int v, int w, int number, int night) {
            return 0 - v;
        }

        @Override int south(int v, int w) {
            return super.south(v, w) / 2;
        }
    }

    private static final Rug[] KINDS = {new Rug(), new Runner(), new Mat(), new Persian(), new Doormat(), new Felt()};

    static final class Carpet {
        int kind, number, on, flown;

        Carpet(int kind, int number, int on, int flown) {
            this.kind = kind;
            this.number = number;
            this.on = on;
            this.flown = flown;
        }
    }

    static final class Fault extends Exception {
        private static final long serialVersionUID = 1L;
        final int place;

        Fault(int place) {
            this.place = place;
        }
    }

    /** Reads byte by byte, with no row of tokens; a fault ends it by being thrown. */
    static final class Text {
        final String s;
        int at = 0;
        final List<String> open = new ArrayList<>();
        final List<ToIntFunction<Map<String, Integer>>> parts = new ArrayList<>();

        Text(String s) throws Fault {
            this.s = s;
            for (String key : new String[] {"easts", "souths", "rises"}) {
                want(key);
                parts.add(either());
                want(";");
            }
            if (!peek().isEmpty()) {
                throw new Fault(at);
            }
        }

        String peek() throws Fault {
            while (at < s.length() && (s.charAt(at) == ' ' || s.charAt(at) == '\n')) {
                at++;
            }
            int end = at;
            if (end < s.length() && Character.toString(s.charAt(end)).matches("[a-z]")) {
                while (end < s.length() && Character.toString(s.charAt(end)).matches("[a-z]")) {
                    end++;
                }
                String word = s.substring(at, end);
                if (!word.matches("easts|souths|rises|or|and|not|word|number|column|row|night|flown")) {
                    throw new Fault(at);
                }
                return word;
            }
            while (end < s.length() && Character.toString(s.charAt(end)).matches("[0-9]")) {
                end++;
            }
            if (end - at > 4) {
                throw new Fault(at);
            }
            if (end > at) {
                return s.substring(at, end);
            }
            if (at < s.length() && "();+-*<=".indexOf(s.charAt(at)) < 0) {
                throw new Fault(at);
            }
            return at < s.length() ? s.substring(at, at + 1) : "";
        }

        void want(String token) throws Fault {
            if (!peek().equals(token)) {
                throw new Fault(at);
            }
            at += token.length();
        }

        boolean have(String token) throws Fault {
            boolean is = peek().equals(token);
            at += is ? token.length() : 0;
            return is;
        }

        void open() throws Fault {
            String token = peek();
            if (open.size() == 5) {
                throw new Fault(at);
            }
            open.add(token);
            at += token.length();
        }

        void close() {
            open.remove(open.size() - 1);
        }

        ToIntFunction<Map<String, Integer>> either() throws Fault {
            ToIntFunction<Map<String, Integer>> left = both();
            while (have("or")) {
                ToIntFunction<Map<String, Integer>> a = left;
                ToIntFunction<Map<String, Integer>> b = both();
                left = m -> a.applyAsInt(m) != 0 | b.applyAsInt(m) != 0 ? 1 : 0;
            }
            return left;
        }

        ToIntFunction<Map<String, Integer>> both() throws Fault {
            ToIntFunction<Map<String, Integer>> left = negation();
            while (have("and")) {
                ToIntFunction<Map<String, Integer>> a = left;
                ToIntFunction<Map<String, Integer>> b = negation();
                left = m -> a.applyAsInt(m) != 0 & b.applyAsInt(m) != 0 ? 1 : 0;
            }
            return left;
        }

        ToIntFunction<Map<String, Integer>> negation() throws Fault {
            if (peek().equals("not")) {
                open();
                ToIntFunction<Map<String, Integer>> a = negation();
                close();
                return m -> a.applyAsInt(m) == 0 ? 1 : 0;
            }
            ToIntFunction<Map<String, Integer>> a = sum();
            if (have("<")) {
                ToIntFunction<Map<String, Integer>> b = sum();
                return m -> a.applyAsInt(m) < b.applyAsInt(m) ? 1 : 0;
            }
            if (have("=")) {
                ToIntFunction<Map<String, Integer>> b = sum();
                return m -> a.applyAsInt(m) == b.applyAsInt(m) ? 1 : 0;
            }
            return a;
        }

        ToIntFunction<Map<String, Integer>> sum() throws Fault {
            ToIntFunction<Map<String, Integer>> left = term();
            while (true) {
                ToIntFunction<Map<String, Integer>> a = left;
                if (have("+")) {
                    ToIntFunction<Map<String, Integer>> b = term();
                    left = m -> a.applyAsInt(m) + b.applyAsInt(m);
                } else if (have("-")) {
                    ToIntFunction<Map<String, Integer>> b = term();
                    left = m -> a.applyAsInt(m) - b.applyAsInt(m);
                } else {
                    return left;
                }
            }
        }

        ToIntFunction<Map<String, Integer>> term() throws Fault {
            ToIntFunction<Map<String, Integer>> left = one();
            while (have("*")) {
                ToIntFunction<Map<String, Integer>> a = left;
                ToIntFunction<Map<String, Integer>> b = one();
                left = m -> a.applyAsInt(m) * b.applyAsInt(m);
            }
            return left;
        }

        ToIntFunction<Map<String, Integer>> one() throws Fault {
            String token = peek();
            if (token.matches("[0-9]+")) {
                at += token.length();
                int v = Integer.parseInt(token);
                return m -> v;
            }
            if (token.matches("word|number|column|row|night|flown")) {
                at += token.length();
                return m -> m.get(token);
            }
            if (token.equals("-")) {
                open();
                ToIntFunction<Map<String, Integer>> a = one();
                close();
                return m -> 0 - a.applyAsInt(m);
            }
            if (token.equals("(")) {
                open();
                ToIntFunction<Map<String, Integer>> a = either();
                want(")");
                close();
                return a;
            }
            throw new Fault(at);
        }
    }

    private final TreeSet<Integer> walls = new TreeSet<>();
    private final List<Carpet> carpets = new ArrayList<>();
    private final List<Text> texts = new ArrayList<>();
    private final StringBuilder tape = new StringBuilder();
    private final List<List<Integer>> sheets = new ArrayList<>();
    private final int[] sorts = {-1, -1, -1, -1};
    private int night = 0, rule = 0;
    private Model kept = null;

    Model() {
        this(new ArrayList<>());
        try {
            texts.add(new Text("easts 1 - word ; souths word - 2 ; rises 1 ;"));
        } catch (Fault f) {
            throw new IllegalStateException(f);
        }
    }

    private Model(List<Carpet> of) {
        for (Carpet c : of) {
            carpets.add(new Carpet(c.kind, c.number, c.on, c.flown));
        }
        for (int i = 0; i < 4; i++) {
            sheets.add(null);
        }
    }

    private static boolean in(int v, int least, int most) {
        return least <= v && v <= most;
    }

    private boolean isCarpet(int c) {
        return in(c, 0, carpets.size() - 1);
    }

    private static int bound(int v, int least, int most) {
        return Math.min(most, Math.max(least, v));
    }

    private int ask(Carpet c, Text t, int on, int word, int part) {
        Map<String, Integer> m = new HashMap<>();
        m.put("word", part == 2 ? 0 : word);
        m.put("number", c.number);
        m.put("column", on % 6);
        m.put("row", on / 6);
        m.put("night", night);
        m.put("flown", c.flown);
        int v = t.parts.get(part).applyAsInt(m);
        return part == 2 ? bound(v, 0, 99) : bound(v, -5, 5);
    }

    private int east(Carpet c, Text t, int on, int word) {
        return bound(KINDS[c.kind].east(ask(c, t, on, word, 0), word, c.number, night), -5, 5);
    }

    private int south(Carpet c, Text t, int on, int word) {
        return bound(KINDS[c.kind].south(ask(c, t, on, word, 1), word), -5, 5);
    }

    private int rises(Carpet c) {
        int k = 0;
        for (Carpet o : carpets) {
            int d = o.on - c.on;
            boolean sameRow = o.on / 6 == c.on / 6;
            k += o != c && (d == 0 || d == 6 || d == -6 || sameRow && (d == 1 || d == -1)) ? 1 : 0;
        }
        return bound(KINDS[c.kind].rises(ask(c, texts.get(rule), c.on, 0, 2), k), 0, 99);
    }

    private int go(Carpet c, Text t, int on, int word) {
        int column = on % 6 + east(c, t, on, word);
        int row = on / 6 + south(c, t, on, word);
        boolean inside = in(column, 0, 5) && in(row, 0, 5);
        return inside && !walls.contains(row * 6 + column) ? row * 6 + column : on;
    }

    private int go(Carpet c, int on, int word) {
        return go(c, texts.get(rule), on, word);
    }

    int set(int what, int of, int v) {
        int was = told(of, what);
        int[] most = {999, 1, 9, 35, 1};
        if (!in(what, 0, 4) || was == BAD || !in(v, 0, most[what])) {
            return BAD;
        }
        if (what == 0) {
            night = v;
        } else if (what == 1) {
            walls.remove(of);
            if (v == 1) {
                walls.add(of);
            }
        } else {
            Carpet c = carpets.get(of);
            c.number = what == 2 ? v : c.number;
            c.on = what == 3 ? v : c.on;
            c.flown = what == 4 ? v : c.flown;
        }
        return was;
    }

    int carpet(int kind, int number, int on) {
        if (!in(kind, 0, 5) || !in(number, 0, 9) || !in(on, 0, 35)) {
            return BAD;
        }
        if (carpets.size() == 4) {
            return FULL;
        }
        carpets.add(new Carpet(kind, number, on, 0));
        return carpets.size() - 1;
    }

    int told(int of, int what) {
        if (what == 0) {
            return night;
        }
        if (what == 1 && in(of, 0, 35)) {
            return walls.contains(of) ? 1 : 0;
        }
        if (what == 1 || !isCarpet(of) || !in(what, 2, 6) && !in(what, 10, 17)) {
            return BAD;
        }
        Carpet c = carpets.get(of);
        if (what >= 10) {
            return go(c, c.on, what - 10);
        }
        return what == 6 ? rises(c) : new int[] {c.number, c.on, c.flown, c.kind}[what - 2];
    }

    int asks(int carpet, int on, int word, int what) {
        if (!isCarpet(carpet) || !in(on, 0, 35) || !in(word, 0, 7) || !in(what, 0, 1)) {
            return -1000;
        }
        Carpet c = carpets.get(carpet);
        return what == 0 ? east(c, texts.get(rule), on, word) : south(c, texts.get(rule), on, word);
    }

    int feed(int letter) {
        if (!in(letter, 0, 255)) {
            return BAD;
        }
        if (tape.length() == 160) {
            return FULL;
        }
        tape.append((char) letter);
        return tape.length();
    }

    int text() {
        if (texts.size() == 6) {
            return FULL;
        }
        try {
            texts.add(new Text(tape.toString()));
        } catch (Fault f) {
            tape.setLength(0);
            return -100 - f.place;
        }
        tape.setLength(0);
        return texts.size() - 1;
    }

    int force(int text) {
        if (!in(text, 0, texts.size() - 1)) {
            return BAD;
        }
        int was = rule;
        rule = text;
        return was;
    }

    int say(int carpet, int word) {
        if (carpet != NONE && !isCarpet(carpet) || !in(word, 0, 7)) {
            return BAD;
        }
        int moved = 0;
        for (int i = 0; i < carpets.size(); i++) {
            Carpet c = carpets.get(i);
            int goal = go(c, c.on, word);
            if ((carpet == NONE || carpet == i) && goal != c.on) {
                c.on = goal;
                c.flown = 1;
                moved++;
            }
        }
        return moved;
    }

    int flies(int sheet, int carpet, int what) {
        if (!in(sheet, 0, 3) || !isCarpet(carpet) || !in(what, 0, 1)) {
            return BAD;
        }
        if (sheets.get(sheet) == null) {
            return -11;
        }
        Carpet c = carpets.get(carpet);
        int on = c.on;
        int moves = 0;
        for (int word : sheets.get(sheet)) {
            if (!in(word, 0, 7)) {
                return BAD;
            }
            int goal = go(c, on, word);
            moves += goal != on ? 1 : 0;
            on = goal;
        }
        return what == 0 ? on : moves;
    }

    /** The first of the shortest rows to each cell, as strings: level by level, the least string is kept. */
    private Map<Integer, String> firstRows(Carpet c) {
        Map<Integer, String> rows = new TreeMap<>();
        Map<Integer, String> level = new TreeMap<>();
        level.put(c.on, "");
        while (!level.isEmpty()) {
            rows.putAll(level);
            Map<Integer, String> next = new TreeMap<>();
            for (Map.Entry<Integer, String> e : level.entrySet()) {
                for (int word = 0; word < 8; word++) {
                    int goal = go(c, e.getKey(), word);
                    if (!rows.containsKey(goal)) {
                        next.merge(goal, e.getValue() + (word + 1), (a, b) -> a.compareTo(b) <= 0 ? a : b);
                    }
                }
            }
            level = next;
        }
        return rows;
    }

    private static int digits(String row) {
        return row.length() > 9 ? NONE : row.isEmpty() ? 0 : Integer.parseInt(row);
    }

    int shortest(int carpet, int on, int what) {
        if (!isCarpet(carpet) || !in(on, 0, 35) || !in(what, 0, 1)) {
            return BAD;
        }
        String row = firstRows(carpets.get(carpet)).get(on);
        return row == null ? NONE : what == 0 ? row.length() : digits(row);
    }

    long there(int carpet, int what) {
        if (!isCarpet(carpet) || !in(what, 0, 1)) {
            return NO;
        }
        Carpet c = carpets.get(carpet);
        long bits = 0;
        for (int cell : firstRows(c).keySet()) {
            boolean sinks = true;
            for (int word = 0; word < 8; word++) {
                sinks &= go(c, cell, word) == cell;
            }
            bits += what == 0 || sinks ? 1L << cell : 0;
        }
        return bits;
    }

    int furthest(int carpet, int what) {
        if (!isCarpet(carpet) || !in(what, 0, 2)) {
            return BAD;
        }
        Carpet c = carpets.get(carpet);
        Map<Integer, String> rows = firstRows(c);
        int far = NONE;
        int cell = NONE;
        int idle = 255;
        for (int at : rows.keySet()) {
            if (rows.get(at).length() > far) {
                far = rows.get(at).length();
                cell = at;
            }
            for (int word = 0; word < 8; word++) {
                idle &= go(c, at, word) == at ? 255 : ~(1 << word);
            }
        }
        return what == 0 ? cell : what == 1 ? far : idle;
    }

    int meet(int one, int other, int what) {
        if (!isCarpet(one) || !isCarpet(other) || one == other || !in(what, 0, 1)) {
            return BAD;
        }
        Carpet a = carpets.get(one);
        Carpet b = carpets.get(other);
        TreeSet<Integer> seen = new TreeSet<>();
        // From the first row to where it leads: of all rows of a length the first to each pair.
        TreeMap<String, Integer> level = new TreeMap<>();
        level.put("", a.on * 36 + b.on);
        for (int far = 0; !level.isEmpty(); far++) {
            seen.addAll(level.values());
            for (int pair : level.values()) {
                if (pair / 36 == pair % 36) {
                    return what == 0 ? far : pair / 36;
                }
            }
            TreeMap<String, Integer> next = new TreeMap<>();
            TreeSet<Integer> inNext = new TreeSet<>();
            for (Map.Entry<String, Integer> e : level.entrySet()) {
                for (int word = 0; word < 8; word++) {
                    int pair = go(a, e.getValue() / 36, word) * 36 + go(b, e.getValue() % 36, word);
                    if (!seen.contains(pair) && inNext.add(pair)) {
                        next.put(e.getKey() + word, pair);
                    }
                }
            }
            level = next;
        }
        return NONE;
    }

    long rows(int carpet, int on, int n) {
        if (!isCarpet(carpet) || !in(on, 0, 35) || !in(n, 0, 20)) {
            return NO;
        }
        return rowsFrom(carpets.get(carpet), carpets.get(carpet).on, on, n, new HashMap<>()).longValueExact();
    }

    private BigInteger rowsFrom(Carpet c, int from, int to, int n, Map<Integer, BigInteger> known) {
        if (n == 0) {
            return from == to ? BigInteger.ONE : BigInteger.ZERO;
        }
        BigInteger sum = known.get(from * 100 + n);
        if (sum == null) {
            sum = BigInteger.ZERO;
            for (int word = 0; word < 8; word++) {
                sum = sum.add(rowsFrom(c, go(c, from, word), to, n - 1, known));
            }
            known.put(from * 100 + n, sum);
        }
        return sum;
    }

    int highest(int what) {
        if (!in(what, 0, 1)) {
            return BAD;
        }
        int best = NONE;
        for (int i = carpets.size() - 1; i >= 0; i--) {
            best = best == NONE || rises(carpets.get(i)) >= rises(carpets.get(best)) ? i : best;
        }
        return what == 0 || best == NONE ? best : rises(carpets.get(best));
    }

    private int refusal(int sheet, int carpet, int what, int mostWhat) {
        if (!in(sheet, 0, 3) || !isCarpet(carpet) || !in(what, 0, mostWhat)) {
            return BAD;
        }
        if (sheets.get(sheet) == null) {
            return -11;
        }
        return sheets.get(sheet).size() > 20 || sheets.get(sheet).stream().anyMatch(v -> !in(v, 0, 35)) ? BAD : 0;
    }

    /** Of each place the words that would do, as a string of digits. */
    private List<String> words(List<Integer> seen, Carpet c, Text t, int start) {
        List<String> places = new ArrayList<>();
        int on = start;
        for (int next : seen) {
            StringBuilder would = new StringBuilder();
            for (int word = 0; word < 8; word++) {
                would.append(go(c, t, on, word) == next ? "" + (word + 1) : "");
            }
            places.add(would.toString());
            on = next;
        }
        return places;
    }

    private boolean any(List<Integer> seen, Carpet c, Text t, int start) {
        return words(seen, c, t, start).indexOf("") < 0;
    }

    int tells(int sheet, int carpet, int what) {
        int refusal = refusal(sheet, carpet, what, 5);
        if (refusal != 0) {
            return refusal;
        }
        List<Integer> seen = sheets.get(sheet);
        Carpet c = carpets.get(carpet);
        List<String> places = words(seen, c, texts.get(rule), c.on);
        if (what == 0) {
            return places.indexOf("");
        }
        if (what == 1) {
            StringBuilder row = new StringBuilder();
            places.forEach(p -> row.append(p.isEmpty() ? "" : p.substring(0, 1)));
            return places.contains("") ? 0 : digits(row.toString());
        }
        if (what == 2) {
            return (int) places.stream().filter(p -> p.length() == 1).count();
        }
        int bits = 0;
        int end = what == 3 ? 6 : what == 4 ? 10 : texts.size();
        for (int i = 0; i < end; i++) {
            Carpet d = new Carpet(what == 3 ? i : c.kind, what == 4 ? i : c.number, c.on, c.flown);
            bits += any(seen, d, texts.get(what == 5 ? i : rule), c.on) ? 1 << i : 0;
        }
        return bits;
    }

    long ways(int sheet, int carpet, int what) {
        if (refusal(sheet, carpet, what, 1) != 0) {
            return NO;
        }
        List<Integer> seen = sheets.get(sheet);
        Carpet c = carpets.get(carpet);
        long product = 1;
        long bits = 0;
        for (String place : words(seen, c, texts.get(rule), c.on)) {
            product *= place.length();
        }
        for (int start = 0; start < 36; start++) {
            bits += any(seen, c, texts.get(rule), start) ? 1L << start : 0;
        }
        return what == 0 ? product : bits;
    }

    private List<Integer> drawnWords(int seed, int n) {
        List<Integer> words = new ArrayList<>();
        int z = seed;
        for (int i = 0; i < n; i++) {
            z = z * 1103515245 + 12345;
            words.add((z >>> 9) % 8);
        }
        return words;
    }

    int drawn(int seed, int carpet, int n) {
        if (!isCarpet(carpet) || !in(n, 0, 99)) {
            return BAD;
        }
        int on = carpets.get(carpet).on;
        for (int word : drawnWords(seed, n)) {
            on = go(carpets.get(carpet), on, word);
        }
        return on;
    }

    long chance(int seed, int m, int carpet, int on, int part) {
        if (!isCarpet(carpet) || !in(on, 0, 35) || !in(m, 1, 20) || !in(part, 0, 1)) {
            return NO;
        }
        int hits = 0;
        for (int i = 0; i < m; i++) {
            TreeSet<Integer> been = new TreeSet<>();
            int at = carpets.get(carpet).on;
            been.add(at);
            for (int word : drawnWords(seed + i, 12)) {
                at = go(carpets.get(carpet), at, word);
                been.add(at);
            }
            hits += been.contains(on) ? 1 : 0;
        }
        int divisor = BigInteger.valueOf(hits).gcd(BigInteger.valueOf(m)).intValue();
        return (part == 0 ? hits : m) / divisor;
    }

    int image() {
        kept = new Model(carpets);
        kept.walls.addAll(walls);
        kept.night = night;
        kept.rule = rule;
        return carpets.size();
    }

    int back() {
        if (kept == null) {
            return STATE;
        }
        carpets.clear();
        carpets.addAll(new Model(kept.carpets).carpets);
        walls.clear();
        walls.addAll(kept.walls);
        night = kept.night;
        rule = kept.rule;
        return carpets.size();
    }

    int count(int what) {
        int flown = (int) carpets.stream().filter(c -> c.flown == 1).count();
        int[] counts = {carpets.size(), walls.size(), flown, texts.size(), tape.length(), rule};
        return in(what, 0, 5) ? counts[what] : BAD;
    }

    int sheet(int sheet, int sort, int n) {
        if (!in(sheet, 0, 3) || !in(sort, -1, 2) || sort != -1 && n > 40) {
            return BAD;
        }
        if (sort != -1 && n < 0) {
            return -14;
        }
        sorts[sheet] = sort;
        List<Integer> row = new ArrayList<>();
        for (int i = 0; sort != -1 && i < n; i++) {
            row.add(0);
        }
        sheets.set(sheet, sort == -1 ? null : row);
        return 1;
    }

    int cell(int sheet, int i, int v) {
        if (!in(sheet, 0, 3)) {
            return BAD;
        }
        if (sheets.get(sheet) == null) {
            return -11;
        }
        if (!in(i, 0, sheets.get(sheet).size() - 1)) {
            return -12;
        }
        sheets.get(sheet).set(i, sorts[sheet] == 0 ? v << 24 >> 24 : sorts[sheet] == 1 ? v << 16 >> 16 : v);
        return 1;
    }

    int copy(int sheet, int i, int other, int j, int n) {
        if (!in(sheet, 0, 3) || !in(other, 0, 3)) {
            return BAD;
        }
        if (sheets.get(sheet) == null || sheets.get(other) == null) {
            return -11;
        }
        if (sorts[sheet] != sorts[other]) {
            return -13;
        }
        boolean outside = i < 0 || j < 0 || n < 0 || (long) i + n > sheets.get(sheet).size()
                || (long) j + n > sheets.get(other).size();
        if (outside) {
            return -12;
        }
        List<Integer> were = new ArrayList<>(sheets.get(sheet).subList(i, i + n));
        for (int k = 0; k < n; k++) {
            sheets.get(other).set(j + k, were.get(k));
        }
        return n;
    }

    int carpets(int sheet, int sort, int from, int n) {
        if (!in(sheet, 0, 3) || !in(sort, 0, 2) || !in(n, 0, 4)) {
            return BAD;
        }
        List<Integer> row = sheets.get(sheet);
        if (row != null && sorts[sheet] != sort) {
            return -13;
        }
        if (row == null) {
            return -11;
        }
        int came = 0;
        for (int k = 0; k < n; k++) {
            long at = from + 3L * k;
            if (at < 0 || at + 2 >= row.size()) {
                return -12;
            }
            came += carpet(row.get((int) at), row.get((int) at + 1), row.get((int) at + 2)) >= 0 ? 1 : 0;
        }
        return came;
    }

    int taken(int carpet, int k) {
        if (!in(k, 0, 5)) {
            return BAD;
        }
        if (!isCarpet(carpet)) {
            return -11;
        }
        return KINDS[k].getClass().isInstance(KINDS[carpets.get(carpet).kind]) ? carpets.get(carpet).number : -13;
    }
}
