import java.util.Random;

/** All promises: runs of drawn calls, each answer against Model's. The draws are the same ones in every run. */
public final class ModelTest {
    private static final int RUNS = 700, CALLS = 512;
    private static final int[] EDGES = {Integer.MIN_VALUE, -1000, -2, -1, 0, 1, 9, 10, 20, 21, 35, 36, 40, 41, 99, 100,
        Integer.MAX_VALUE - 1, Integer.MAX_VALUE};
    private static final String[] TOKENS = {"word", "number", "column", "row", "night", "flown", "or", "and", "not",
        "(", ")", ";", "+", "-", "*", "<", "=", "1", "2", "12", "9999", "12345", "easts", "souths", "rises", "x", "$"};
    private static final String[] BINARY = {"+", "-", "*", "<", "=", " and ", " or "};
    private static final String[] LEAVES = {"word", "number", "column", "row", "night", "flown", "0", "1", "2", "3"};

    private final Random random;
    private final FlownOnceAndLaid x = new FlownOnceAndLaid();
    private final Model model = new Model();
    private final int run;
    private int calls = 0;

    private ModelTest(int run) {
        this.run = run;
        this.random = new Random(run);
    }

    public static void main(String[] args) {
        for (int run = 0; run < RUNS; run++) {
            new ModelTest(run).go();
        }
        Due.end();
    }

    private void go() {
        while (calls < CALLS) {
            int what = random.nextInt(40);
            if (what < 4) {
                feedText();
            } else if (what < 7) {
                fillSheet();
            } else {
                call(what - 7);
            }
        }
    }

    private void due(String call, long got, long want) {
        calls++;
        Due.is("run " + run + ", call " + calls + ": " + call, got, want);
    }

    /** Mostly one of the numbers below an end, now and then an edge. */
    private int upTo(int end) {
        return random.nextInt(12) == 0 ? EDGES[random.nextInt(EDGES.length)] : random.nextInt(end);
    }

    private String e(int deep) {
        int what = random.nextInt(deep <= 0 ? 3 : 10);
        if (what < 3) {
            return LEAVES[random.nextInt(LEAVES.length)];
        }
        if (what == 3) {
            return "not " + e(deep - 1);
        }
        if (what == 4) {
            return "-" + e(deep - 1);
        }
        if (what < 7) {
            return "(" + e(deep - 1) + ")";
        }
        return e(deep - 1) + BINARY[random.nextInt(BINARY.length)] + e(deep - 1);
    }

    private String part(String key) {
        boolean plain = random.nextInt(3) == 0;
        return key + " " + (plain ? e(3) : e(1) + "-" + LEAVES[random.nextInt(LEAVES.length)]) + ";";
    }

    private void feedText() {
        StringBuilder text = new StringBuilder(part("easts") + part("souths") + part("rises"));
        if (random.nextInt(3) == 0) {
            int at = random.nextInt(text.length() + 1);
            text.insert(at, TOKENS[random.nextInt(TOKENS.length)]);
        }
        if (random.nextInt(5) == 0) {
            text.deleteCharAt(random.nextInt(text.length()));
        }
        if (text.length() > 60 && random.nextInt(4) != 0) {
            return;
        }
        for (int i = 0; i < text.length(); i++) {
            due("feed(" + (int) text.charAt(i) + ")", x.feed(text.charAt(i)), model.feed(text.charAt(i)));
        }
        int number = model.text();
        due("text() of " + text, x.text(), number);
        if (number > 0 && random.nextInt(4) != 0) {
            due("force(" + number + ")", x.force(number), model.force(number));
        }
    }

    /** Words, cells that are a true flight, or items of carpets. */
    private void fillSheet() {
        int sheet = random.nextInt(4);
        int sort = random.nextInt(3);
        int n = random.nextInt(random.nextInt(3) == 0 ? 23 : 12);
        due("sheet(" + sheet + ", " + sort + ", " + n + ")", x.sheet(sheet, sort, n), model.sheet(sheet, sort, n));
        int way = random.nextInt(3);
        int on = model.told(0, 3);
        for (int i = 0; i < n; i++) {
            int v = way == 0 ? random.nextInt(8) : way == 1 ? i % 3 == 2 ? upTo(36) : upTo(7) : on;
            if (way == 2 && on >= 0 && random.nextInt(15) != 0) {
                // Where a word leads from any cell is told by moving the carpet there for a while, in the model alone.
                int was = model.set(3, 0, on);
                v = model.told(0, 10 + random.nextInt(8));
                model.set(3, 0, was);
                on = v;
            }
            due("cell(" + sheet + ", " + i + ", " + v + ")", x.cell(sheet, i, v), model.cell(sheet, i, v));
        }
        if (n <= 20 && way == 2) {
            for (int what = 0; what < 6; what++) {
                due("tells(" + sheet + ", 0, " + what + ")", x.tells(sheet, 0, what), model.tells(sheet, 0, what));
            }
        }
    }

    private void call(int which) {
        int a = upTo(5);
        int b = upTo(6);
        int c = upTo(36);
        int d = upTo(3);
        int s = random.nextInt(4) == 0 ? upTo(5) : random.nextInt(4);
        int p = random.nextInt(4) == 0 ? upTo(5) : random.nextInt(4);
        String of = "(" + a + " " + b + " " + c + " " + d + " " + s + " " + p + ")";
        switch (which) {
            case 0 -> due("set" + of, x.set(b, p, d), model.set(b, p, d));
            case 1 -> due("set" + of, x.set(1, c, d), model.set(1, c, d));
            case 2 -> due("set" + of, x.set(3, p, c), model.set(3, p, c));
            case 3, 4 -> due("carpet" + of, x.carpet(b, a * 2, c), model.carpet(b, a * 2, c));
            case 5 -> due("told" + of, x.told(p, c % 20), model.told(p, c % 20));
            case 6 -> due("asks" + of, x.asks(p, c, b + 2, d), model.asks(p, c, b + 2, d));
            case 7 -> due("feed" + of, x.feed(c * 8), model.feed(c * 8));
            case 8 -> due("text" + of, x.text(), model.text());
            case 9 -> due("force" + of, x.force(a), model.force(a));
            case 10 -> due("say" + of, x.say(p, b + 1), model.say(p, b + 1));
            case 11 -> due("say" + of, x.say(-1, b), model.say(-1, b));
            case 12 -> due("flies" + of, x.flies(s, p, d), model.flies(s, p, d));
            case 13 -> due("shortest" + of, x.shortest(p, c, d), model.shortest(p, c, d));
            case 14 -> due("there" + of, x.there(p, d), model.there(p, d));
            case 15 -> due("furthest" + of, x.furthest(p, d), model.furthest(p, d));
            case 16 -> due("meet" + of, x.meet(p, a, d), model.meet(p, a, d));
            case 17 -> due("rows" + of, x.rows(p, c, a * 5), model.rows(p, c, a * 5));
            case 18 -> due("highest" + of, x.highest(d), model.highest(d));
            case 19 -> due("tells" + of, x.tells(s, p, b), model.tells(s, p, b));
            case 20 -> due("ways" + of, x.ways(s, p, d), model.ways(s, p, d));
            case 21 -> due("drawn" + of, x.drawn(a * c, p, c), model.drawn(a * c, p, c));
            case 22 -> due("chance" + of, x.chance(a * c, b * 4, p, c, d), model.chance(a * c, b * 4, p, c, d));
            case 23 -> due("image" + of, x.image(), model.image());
            case 24 -> due("back" + of, x.back(), model.back());
            case 25 -> due("count" + of, x.count(b), model.count(b));
            case 26 -> due("sheet" + of, x.sheet(s, d - 1, c), model.sheet(s, d - 1, c));
            case 27 -> due("cell" + of, x.cell(s, c, a * 100 + b), model.cell(s, c, a * 100 + b));
            case 28 -> due("copy" + of, x.copy(s, a, p, d, b), model.copy(s, a, p, d, b));
            case 29 -> due("carpets" + of, x.carpets(s, d, c, a), model.carpets(s, d, c, a));
            case 30 -> due("taken" + of, x.taken(p, b), model.taken(p, b));
            default -> due("shortest" + of, x.shortest(0, c, 1), model.shortest(0, c, 1));
        }
    }
}
