import java.util.Arrays;

/** Carpets that go over a floor of thirty six cells at a word; ../shared/DOC.md says what each call promises. */
public final class FlownOnceAndLaid {
    public static final int NONE = -1, BAD = -2, STATE = -3, FULL = -4;
    public static final long NO = -4611686018427387904L;

    private static final int MISSING = -11, OUTSIDE = -12, OTHER_SORT = -13, BELOW_0 = -14;
    private static final int NONE_SUCH = -1000, FAULT_BASE = -100;

    private static final int SIDE = 6, CELLS = 36, WORDS = 8, MOST_CARPETS = 4, NUMBERS = 10, NIGHTS = 1000;
    private static final int MOST_TEXTS = 6, TAPE_SIZE = 160, MOST_OPEN = 5;
    private static final int SHEETS = 4, SORTS = 3, SHEET_SIZE = 40, MOST_TOLD = 20;
    private static final int MOST_DIGITS = 9, MOST_ROW = 20, MOST_DRAWN = 99, MOST_SEEDS = 20, WORDS_A_SEED = 12;
    private static final int MOST_FAR = 5, MOST_HIGH = 99;
    private static final long ALL_CELLS = (1L << CELLS) - 1;

    private static final int RUG = 0, RUNNER = 1, MAT = 2, PERSIAN = 3, DOORMAT = 4, FELT = 5, KINDS = 6;
    private static final int[] UNDER = {NONE, RUG, RUG, RUNNER, MAT, RUG};

    private static final String FIRST_TEXT = "easts 1 - word ; souths word - 2 ; rises 1 ;";

    private final Floor floor = new Floor();
    private final Floor kept = new Floor();
    private boolean imageIsKept = false;

    private final Reader reader = new Reader();
    private final Text[] texts = new Text[MOST_TEXTS];
    private int textCount = 0;

    private final Sheet[] sheets = new Sheet[SHEETS];

    private final Thought thought = new Thought();
    private final Ways oneWays = new Ways();
    private final Ways otherWays = new Ways();
    private final Pairs pairs = new Pairs();
    private long[] rowsNow = new long[CELLS];
    private long[] rowsNext = new long[CELLS];

    public FlownOnceAndLaid() {
        for (int i = 0; i < sheets.length; i++) {
            sheets[i] = new Sheet();
        }
        for (int i = 0; i < FIRST_TEXT.length(); i++) {
            reader.put(FIRST_TEXT.charAt(i));
        }
        if (reader.reads()) {
            texts[0] = reader.made();
        }
        textCount = 1;
        reader.clear();
    }

    // ---- the floor, carpets

    public int set(int what, int of, int v) {
        switch (what) {
            case 0:
                return setNight(v);
            case 1:
                return setWall(of, v);
            case 2:
            case 3:
            case 4:
                return setOfCarpet(what, of, v);
            default:
                return BAD;
        }
    }

    private int setNight(int v) {
        if (!isBelow(v, NIGHTS)) {
            return BAD;
        }
        int was = floor.night;
        floor.night = v;
        return was;
    }

    private int setWall(int on, int v) {
        if (!isBelow(on, CELLS) || !isBelow(v, 2)) {
            return BAD;
        }
        int was = floor.wallOn(on);
        floor.putWall(on, v);
        return was;
    }

    private int setOfCarpet(int what, int of, int v) {
        Carpet carpet = floor.carpetAt(of);
        if (carpet == null || !isBelow(v, endOf(what))) {
            return BAD;
        }
        int was = carpet.tell(what);
        carpet.put(what, v);
        return was;
    }

    private static int endOf(int what) {
        switch (what) {
            case 2:
                return NUMBERS;
            case 3:
                return CELLS;
            default:
                return 2;
        }
    }

    public int carpet(int kind, int number, int on) {
        return lay(kind, number, on);
    }

    private int lay(int kind, int number, int on) {
        if (!isBelow(kind, KINDS) || !isBelow(number, NUMBERS) || !isBelow(on, CELLS)) {
            return BAD;
        }
        return floor.add(kind, number, on);
    }

    public int told(int of, int what) {
        if (what == 0) {
            return floor.night;
        }
        if (what == 1) {
            return isBelow(of, CELLS) ? floor.wallOn(of) : BAD;
        }
        Carpet carpet = floor.carpetAt(of);
        if (carpet == null) {
            return BAD;
        }
        if (what >= 2 && what <= 5) {
            return carpet.tell(what);
        }
        if (what == 6) {
            return heightOf(of);
        }
        if (what >= 10 && isBelow(what - 10, WORDS)) {
            think(carpet);
            return thought.goal(carpet.on, what - 10);
        }
        return BAD;
    }

    private int heightOf(int number) {
        Carpet carpet = floor.carpetAt(number);
        if (carpet == null) {
            return NONE;
        }
        think(carpet);
        return thought.height(carpet.on, floor.nearTo(number));
    }

    public int asks(int carpet, int on, int word, int what) {
        Carpet asked = floor.carpetAt(carpet);
        if (asked == null || !isBelow(on, CELLS) || !isBelow(word, WORDS) || !isBelow(what, 2)) {
            return NONE_SUCH;
        }
        think(asked);
        return what == 0 ? thought.east(on, word) : thought.south(on, word);
    }

    // ---- texts

    public int feed(int letter) {
        if (!isBelow(letter, 256)) {
            return BAD;
        }
        return reader.put(letter);
    }

    public int text() {
        if (!isBelow(textCount, texts.length)) {
            return FULL;
        }
        if (!reader.reads()) {
            int place = reader.place();
            reader.clear();
            return FAULT_BASE - place;
        }
        texts[textCount] = reader.made();
        reader.clear();
        textCount++;
        return textCount - 1;
    }

    public int force(int text) {
        if (!isBelow(text, textCount)) {
            return BAD;
        }
        int was = floor.rule;
        floor.rule = text;
        return was;
    }

    private Text textAt(int text) {
        return isBelow(text, texts.length) ? texts[text] : null;
    }

    // ---- words

    public int say(int carpet, int word) {
        if (!isBelow(word, WORDS)) {
            return BAD;
        }
        if (carpet != NONE) {
            Carpet called = floor.carpetAt(carpet);
            return called == null ? BAD : fly(called, word);
        }
        int moved = 0;
        for (int i = 0; i < MOST_CARPETS; i++) {
            Carpet called = floor.carpetAt(i);
            moved += called == null ? 0 : fly(called, word);
        }
        return moved;
    }

    private int fly(Carpet carpet, int word) {
        think(carpet);
        int goal = thought.goal(carpet.on, word);
        if (goal == carpet.on) {
            return 0;
        }
        carpet.on = goal;
        carpet.flown = 1;
        return 1;
    }

    public int flies(int sheet, int carpet, int what) {
        int refusal = refusalOfTold(sheet, carpet, isBelow(what, 2), SHEET_SIZE, WORDS);
        Sheet row = sheetAt(sheet);
        Carpet flier = floor.carpetAt(carpet);
        if (refusal != 0 || row == null || flier == null) {
            return refusal;
        }
        think(flier);
        int on = flier.on;
        int moves = 0;
        for (int i = 0; i < row.size; i++) {
            int goal = thought.goal(on, row.item(i));
            moves += goal == on ? 0 : 1;
            on = goal;
        }
        return what == 0 ? on : moves;
    }

    // ---- ways

    public int shortest(int carpet, int on, int what) {
        if (!isBelow(on, CELLS) || !isBelow(what, 2) || !explore(oneWays, carpet)) {
            return BAD;
        }
        return what == 0 ? oneWays.stepsTo(on) : oneWays.digitsTo(on);
    }

    public long there(int carpet, int what) {
        if (!isBelow(what, 2) || !explore(oneWays, carpet)) {
            return NO;
        }
        return what == 0 ? oneWays.reached() : oneWays.sinks();
    }

    public int furthest(int carpet, int what) {
        if (!isBelow(what, 3) || !explore(oneWays, carpet)) {
            return BAD;
        }
        if (what == 2) {
            return oneWays.idleWords();
        }
        int far = oneWays.furthestCell();
        return what == 0 ? far : oneWays.stepsTo(far);
    }

    public int meet(int one, int other, int what) {
        if (one == other || !isBelow(what, 2) || !explore(oneWays, one) || !explore(otherWays, other)) {
            return BAD;
        }
        pairs.seek(oneWays, otherWays);
        return what == 0 ? pairs.steps : pairs.on;
    }

    public long rows(int carpet, int on, int n) {
        if (!isBelow(on, CELLS) || !isBelow(n, MOST_ROW + 1) || !explore(oneWays, carpet)) {
            return NO;
        }
        int start = oneWays.start();
        Arrays.fill(rowsNow, 0L);
        if (isBelow(start, rowsNow.length)) {
            rowsNow[start] = 1;
        }
        for (int i = 0; i < n; i++) {
            Arrays.fill(rowsNext, 0L);
            oneWays.spread(rowsNow, rowsNext);
            long[] spent = rowsNow;
            rowsNow = rowsNext;
            rowsNext = spent;
        }
        return rowsNow[on];
    }

    public int highest(int what) {
        if (!isBelow(what, 2)) {
            return BAD;
        }
        int best = NONE;
        int most = NONE;
        for (int i = 0; i < floor.count; i++) {
            int height = heightOf(i);
            if (height > most) {
                best = i;
                most = height;
            }
        }
        return what == 0 ? best : most;
    }

    private boolean explore(Ways way, int carpet) {
        Carpet flier = floor.carpetAt(carpet);
        if (flier == null) {
            return false;
        }
        think(flier);
        way.explore(thought, flier.on);
        return true;
    }

    // ---- flights that were told

    public int tells(int sheet, int carpet, int what) {
        int refusal = refusalOfTold(sheet, carpet, isBelow(what, 6), MOST_TOLD, CELLS);
        Sheet seen = sheetAt(sheet);
        Carpet flier = floor.carpetAt(carpet);
        if (refusal != 0 || seen == null || flier == null) {
            return refusal;
        }
        think(flier);
        switch (what) {
            case 0:
                return firstThatCannotBe(seen, flier.on);
            case 1:
                return firstRow(seen, flier.on);
            case 2:
                return sureWords(seen, flier.on);
            case 3:
                return kindsThatFit(seen, flier.on);
            case 4:
                return numbersThatFit(seen, flier.on);
            default:
                return textsThatFit(seen, flier.on);
        }
    }

    public long ways(int sheet, int carpet, int what) {
        int refusal = refusalOfTold(sheet, carpet, isBelow(what, 2), MOST_TOLD, CELLS);
        Sheet seen = sheetAt(sheet);
        Carpet flier = floor.carpetAt(carpet);
        if (refusal != 0 || seen == null || flier == null) {
            return NO;
        }
        think(flier);
        return what == 0 ? howMany(seen, flier.on) : startsThatFit(seen);
    }

    /** 0: nothing is to be refused of a sheet that tells at most so many numbers from 0 up to below an end. */
    private int refusalOfTold(int sheet, int carpet, boolean whatIsGood, int most, int end) {
        Sheet row = sheetAt(sheet);
        if (row == null || floor.carpetAt(carpet) == null || !whatIsGood) {
            return BAD;
        }
        if (row.isMissing()) {
            return MISSING;
        }
        return row.size <= most && row.isAllBelow(end) ? 0 : BAD;
    }

    private static int cellAhead(Sheet seen, int i, int start) {
        return i == 0 ? start : seen.item(i - 1);
    }

    private int firstThatCannotBe(Sheet seen, int start) {
        for (int i = 0; i < seen.size; i++) {
            if (thought.firstWord(cellAhead(seen, i, start), seen.item(i)) == NONE) {
                return i;
            }
        }
        return NONE;
    }

    private int firstRow(Sheet seen, int start) {
        if (firstThatCannotBe(seen, start) != NONE) {
            return 0;
        }
        if (seen.size > MOST_DIGITS) {
            return NONE;
        }
        int digits = 0;
        for (int i = 0; i < seen.size; i++) {
            digits = digits * 10 + thought.firstWord(cellAhead(seen, i, start), seen.item(i)) + 1;
        }
        return digits;
    }

    private int sureWords(Sheet seen, int start) {
        int sure = 0;
        for (int i = 0; i < seen.size; i++) {
            sure += thought.wordCount(cellAhead(seen, i, start), seen.item(i)) == 1 ? 1 : 0;
        }
        return sure;
    }

    private long howMany(Sheet seen, int start) {
        long product = 1;
        for (int i = 0; i < seen.size; i++) {
            product *= thought.wordCount(cellAhead(seen, i, start), seen.item(i));
        }
        return product;
    }

    private int kindsThatFit(Sheet seen, int start) {
        int bits = 0;
        for (int kind = 0; kind < KINDS; kind++) {
            thought.beOfKind(kind);
            bits |= firstThatCannotBe(seen, start) == NONE ? 1 << kind : 0;
        }
        return bits;
    }

    private int numbersThatFit(Sheet seen, int start) {
        int bits = 0;
        for (int number = 0; number < NUMBERS; number++) {
            thought.beNumbered(number);
            bits |= firstThatCannotBe(seen, start) == NONE ? 1 << number : 0;
        }
        return bits;
    }

    private int textsThatFit(Sheet seen, int start) {
        int bits = 0;
        for (int i = 0; i < textCount; i++) {
            thought.goBy(textAt(i));
            bits |= firstThatCannotBe(seen, start) == NONE ? 1 << i : 0;
        }
        return bits;
    }

    private long startsThatFit(Sheet seen) {
        if (seen.size == 0) {
            return ALL_CELLS;
        }
        // Where it starts matters to the first told cell alone, so the others are looked at once only.
        for (int i = 1; i < seen.size; i++) {
            if (thought.firstWord(seen.item(i - 1), seen.item(i)) == NONE) {
                return 0;
            }
        }
        long bits = 0;
        for (int start = 0; start < CELLS; start++) {
            bits |= thought.firstWord(start, seen.item(0)) == NONE ? 0 : 1L << start;
        }
        return bits;
    }

    public int drawn(int seed, int carpet, int n) {
        Carpet flier = floor.carpetAt(carpet);
        if (flier == null || !isBelow(n, MOST_DRAWN + 1)) {
            return BAD;
        }
        think(flier);
        int on = flier.on;
        int z = seed;
        for (int i = 0; i < n; i++) {
            z = drawnAfter(z);
            on = thought.goal(on, wordOf(z));
        }
        return on;
    }

    private static int drawnAfter(int z) {
        return z * 1103515245 + 12345;
    }

    private static int wordOf(int z) {
        return (z >>> 9) % WORDS;
    }

    public long chance(int seed, int m, int carpet, int on, int part) {
        Carpet flier = floor.carpetAt(carpet);
        if (flier == null || !isBelow(on, CELLS) || !isBelow(m, MOST_SEEDS + 1) || m == 0 || !isBelow(part, 2)) {
            return NO;
        }
        think(flier);
        int hits = 0;
        for (int i = 0; i < m; i++) {
            hits += comesBy(seed + i, flier.on, on) ? 1 : 0;
        }
        int divisor = commonDivisor(hits, m);
        return (part == 0 ? hits : m) / Math.max(1, divisor);
    }

    private boolean comesBy(int seed, int start, int told) {
        int on = start;
        int z = seed;
        for (int i = 0; i < WORDS_A_SEED && on != told; i++) {
            z = drawnAfter(z);
            on = thought.goal(on, wordOf(z));
        }
        return on == told;
    }

    /** The greatest one of two numbers of which the other is above 0. */
    private static int commonDivisor(int hits, int m) {
        for (int divisor = m; divisor > 1; divisor--) {
            if (hits % divisor == 0 && m % divisor == 0) {
                return divisor;
            }
        }
        return 1;
    }

    public int image() {
        kept.becomeLike(floor);
        imageIsKept = true;
        return kept.count;
    }

    public int back() {
        if (!imageIsKept) {
            return STATE;
        }
        floor.becomeLike(kept);
        return floor.count;
    }

    public int count(int what) {
        switch (what) {
            case 0:
                return floor.count;
            case 1:
                return Long.bitCount(floor.walls);
            case 2:
                return floor.flownCount();
            case 3:
                return textCount;
            case 4:
                return reader.size;
            case 5:
                return floor.rule;
            default:
                return BAD;
        }
    }

    // ---- the host

    public int sheet(int sheet, int sort, int n) {
        Sheet row = sheetAt(sheet);
        if (row == null || sort < NONE || sort >= SORTS) {
            return BAD;
        }
        if (sort == NONE) {
            row.makeMissing();
            return 1;
        }
        if (n > SHEET_SIZE) {
            return BAD;
        }
        if (n < 0) {
            return BELOW_0;
        }
        row.makeRow(sort, n);
        return 1;
    }

    public int cell(int sheet, int i, int v) {
        Sheet row = sheetAt(sheet);
        if (row == null) {
            return BAD;
        }
        if (row.isMissing()) {
            return MISSING;
        }
        if (!isBelow(i, row.size)) {
            return OUTSIDE;
        }
        row.put(i, v);
        return 1;
    }

    public int copy(int sheet, int i, int other, int j, int n) {
        Sheet from = sheetAt(sheet);
        Sheet to = sheetAt(other);
        if (from == null || to == null) {
            return BAD;
        }
        if (from.isMissing() || to.isMissing()) {
            return MISSING;
        }
        if (from.sort != to.sort) {
            return OTHER_SORT;
        }
        if (!from.holds(i, n) || !to.holds(j, n)) {
            return OUTSIDE;
        }
        System.arraycopy(from.items, i, to.items, j, n);
        return n;
    }

    public int carpets(int sheet, int sort, int from, int n) {
        Sheet row = sheetAt(sheet);
        if (row == null || !isBelow(sort, SORTS) || !isBelow(n, MOST_CARPETS + 1)) {
            return BAD;
        }
        if (!row.isMissing() && row.sort != sort) {
            return OTHER_SORT;
        }
        if (row.isMissing()) {
            return MISSING;
        }
        int came = 0;
        for (int k = 0; k < n; k++) {
            // from + 3 * k can't wrap: the place ahead of it was inside.
            int at = from + 3 * k;
            if (!row.holds(at, 3)) {
                return OUTSIDE;
            }
            came += lay(row.item(at), row.item(at + 1), row.item(at + 2)) >= 0 ? 1 : 0;
        }
        return came;
    }

    public int taken(int carpet, int k) {
        if (!isBelow(k, KINDS)) {
            return BAD;
        }
        Carpet taken = floor.carpetAt(carpet);
        if (taken == null) {
            return MISSING;
        }
        return isUnder(taken.kind, k) ? taken.number : OTHER_SORT;
    }

    private static boolean isUnder(int kind, int over) {
        int at = kind;
        for (int i = 0; i < KINDS && at != over && isBelow(at, UNDER.length); i++) {
            at = UNDER[at];
        }
        return at == over;
    }

    private Sheet sheetAt(int sheet) {
        return isBelow(sheet, sheets.length) ? sheets[sheet] : null;
    }

    private void think(Carpet carpet) {
        thought.takeUp(carpet, floor.walls, floor.night);
        thought.goBy(textAt(floor.rule));
    }

    private static boolean isBelow(int v, int end) {
        return v >= 0 && v < end;
    }

    private static int bounded(int v, int least, int most) {
        return v < least ? least : v > most ? most : v;
    }

    private static final class Carpet {
        private int kind, number, on, flown;

        private void become(int newKind, int newNumber, int newOn, int newFlown) {
            kind = newKind;
            number = newNumber;
            on = newOn;
            flown = newFlown;
        }

        private int tell(int what) {
            switch (what) {
                case 2:
                    return number;
                case 3:
                    return on;
                case 4:
                    return flown;
                default:
                    return kind;
            }
        }

        private void put(int what, int v) {
            switch (what) {
                case 2:
                    number = v;
                    break;
                case 3:
                    on = v;
                    break;
                default:
                    flown = v;
                    break;
            }
        }
    }

    /** All that an image keeps, and nothing else: so an image is a second floor. */
    private static final class Floor {
        private final Carpet[] lying = new Carpet[MOST_CARPETS];
        private int count, night, rule;
        private long walls;

        private Floor() {
            for (int i = 0; i < lying.length; i++) {
                lying[i] = new Carpet();
            }
        }

        private Carpet carpetAt(int number) {
            return number < count && isBelow(number, lying.length) ? lying[number] : null;
        }

        private int add(int kind, int number, int on) {
            if (!isBelow(count, lying.length)) {
                return FULL;
            }
            lying[count].become(kind, number, on, 0);
            count++;
            return count - 1;
        }

        private int wallOn(int cell) {
            return (int) (walls >>> cell & 1L);
        }

        private void putWall(int cell, int v) {
            walls = v == 1 ? walls | 1L << cell : walls & ~(1L << cell);
        }

        private int flownCount() {
            int flown = 0;
            for (int i = 0; i < count && i < lying.length; i++) {
                flown += lying[i].flown;
            }
            return flown;
        }

        private int nearTo(int number) {
            Carpet own = carpetAt(number);
            int near = 0;
            for (int i = 0; i < lying.length; i++) {
                Carpet other = carpetAt(i);
                if (i != number && own != null && other != null) {
                    near += distance(own.on, other.on) <= 1 ? 1 : 0;
                }
            }
            return near;
        }

        private static int distance(int one, int other) {
            return Math.abs(one % SIDE - other % SIDE) + Math.abs(one / SIDE - other / SIDE);
        }

        private void becomeLike(Floor other) {
            count = other.count;
            night = other.night;
            rule = other.rule;
            walls = other.walls;
            for (int i = 0; i < lying.length && i < other.lying.length; i++) {
                Carpet like = other.lying[i];
                lying[i].become(like.kind, like.number, like.on, like.flown);
            }
        }
    }

    private static final class Sheet {
        private final int[] items = new int[SHEET_SIZE];
        private int sort = NONE;
        private int size = 0;

        private boolean isMissing() {
            return sort == NONE;
        }

        private void makeMissing() {
            sort = NONE;
            size = 0;
        }

        private void makeRow(int newSort, int newSize) {
            sort = newSort;
            size = newSize;
            Arrays.fill(items, 0);
        }

        private int item(int i) {
            return isBelow(i, size) && i < items.length ? items[i] : 0;
        }

        private void put(int i, int v) {
            if (isBelow(i, size) && i < items.length) {
                items[i] = sort == 0 ? (byte) v : sort == 1 ? (short) v : v;
            }
        }

        private boolean holds(int from, int n) {
            return from >= 0 && n >= 0 && from <= size && n <= size - from;
        }

        private boolean isAllBelow(int end) {
            for (int i = 0; i < size; i++) {
                if (!isBelow(item(i), end)) {
                    return false;
                }
            }
            return true;
        }
    }

    /** A text that was read: of each part the steps that work it out, operands ahead of what joins them. */
    private static final class Text {
        // A step is one of these in its lowest four bits, and above them what it pushes or names.
        private static final int PUSH = 0, NAME = 1;
        private static final int NOT = 2, NEGATE = 3;
        private static final int OR = 4, AND = 5, LESS = 6, SAME = 7, PLUS = 8, MINUS = 9, TIMES = 10;

        private static final int WORD = 0, NUMBER = 1, COLUMN = 2, ROW = 3, NIGHT = 4, FLOWN = 5, NAMES = 6;

        private final int[] easts, souths, rises;

        private Text(int[] easts, int[] souths, int[] rises) {
            this.easts = easts;
            this.souths = souths;
            this.rises = rises;
        }
    }

    /** The tape, and what reads a text from it. */
    private static final class Reader {
        // A sign is its own token; these are below all signs, and a name is its number above NAME.
        private static final int END = 0, WRONG = 1, NUMBER = 2;
        private static final int EASTS = 4, SOUTHS = 5, RISES = 6, OR = 7, AND = 8, NOT = 9, NAME = 16;
        private static final int MOST_LONG = 4;

        private final int[] tape = new int[TAPE_SIZE];
        private int size = 0;

        private final int[] tokens = new int[TAPE_SIZE];
        private final int[] places = new int[TAPE_SIZE];
        private final int[] values = new int[TAPE_SIZE];
        private int tokenCount = 0;
        private int at = 0;

        // Each step comes of a token of its own, so there are never more steps than bytes.
        private final int[] steps = new int[TAPE_SIZE];
        private int stepCount = 0;
        private int eastsEnd = 0;
        private int southsEnd = 0;

        private int put(int letter) {
            if (!isBelow(size, tape.length)) {
                return FULL;
            }
            tape[size] = letter;
            size++;
            return size;
        }

        private void clear() {
            size = 0;
        }

        /** Whether the tape is a text. */
        private boolean reads() {
            findTokens();
            at = 0;
            stepCount = 0;
            if (!readPart(EASTS)) {
                return false;
            }
            eastsEnd = stepCount;
            if (!readPart(SOUTHS)) {
                return false;
            }
            southsEnd = stepCount;
            return readPart(RISES) && token() == END;
        }

        /** The text that reads() found; apart from it, so that a text that has no room is not made. */
        private Text made() {
            return new Text(stepsOf(0, eastsEnd), stepsOf(eastsEnd, southsEnd), stepsOf(southsEnd, stepCount));
        }

        /** The place of the token at hand: behind a reads() that found no text, of the fault. */
        private int place() {
            return isBelow(at, tokenCount) ? places[at] : size;
        }

        private int[] stepsOf(int from, int end) {
            int[] part = new int[Math.max(0, end - from)];
            for (int i = 0; i < part.length && from + i < steps.length; i++) {
                part[i] = steps[from + i];
            }
            return part;
        }

        private void findTokens() {
            tokenCount = 0;
            int from = 0;
            for (int i = 0; i < TAPE_SIZE && from < size; i++) {
                int letter = letterAt(from);
                int end = from + 1;
                if (isLetter(letter)) {
                    end = wordEnd(from);
                    addToken(wordToken(from, end), from, 0);
                } else if (isDigit(letter)) {
                    end = numberEnd(from);
                    addToken(end - from > MOST_LONG ? WRONG : NUMBER, from, numberValue(from, end));
                } else if (letter != 32 && letter != 10) {
                    addToken(isSign(letter) ? letter : WRONG, from, 0);
                }
                from = end;
            }
        }

        private void addToken(int token, int place, int value) {
            if (isBelow(tokenCount, tokens.length)) {
                tokens[tokenCount] = token;
                places[tokenCount] = place;
                values[tokenCount] = value;
                tokenCount++;
            }
        }

        private int wordEnd(int from) {
            int end = from;
            for (int i = from; i < size && isLetter(letterAt(i)); i++) {
                end = i + 1;
            }
            return end;
        }

        private int numberEnd(int from) {
            int end = from;
            for (int i = from; i < size && isDigit(letterAt(i)); i++) {
                end = i + 1;
            }
            return end;
        }

        private int numberValue(int from, int end) {
            int value = 0;
            for (int i = from; i < end; i++) {
                value = value * 10 + letterAt(i) - '0';
            }
            return value;
        }

        private int wordToken(int from, int end) {
            return spells(from, end, "word") ? NAME + Text.WORD
                    : spells(from, end, "number") ? NAME + Text.NUMBER
                    : spells(from, end, "column") ? NAME + Text.COLUMN
                    : spells(from, end, "row") ? NAME + Text.ROW
                    : spells(from, end, "night") ? NAME + Text.NIGHT
                    : spells(from, end, "flown") ? NAME + Text.FLOWN
                    : spells(from, end, "easts") ? EASTS
                    : spells(from, end, "souths") ? SOUTHS
                    : spells(from, end, "rises") ? RISES
                    : spells(from, end, "or") ? OR
                    : spells(from, end, "and") ? AND
                    : spells(from, end, "not") ? NOT
                    : WRONG;
        }

        private boolean spells(int from, int end, String wanted) {
            if (end - from != wanted.length()) {
                return false;
            }
            for (int i = 0; i < wanted.length(); i++) {
                if (letterAt(from + i) != wanted.charAt(i)) {
                    return false;
                }
            }
            return true;
        }

        private int letterAt(int i) {
            return i >= 0 && i < size && i < tape.length ? tape[i] : NONE;
        }

        private static boolean isLetter(int letter) {
            return letter >= 'a' && letter <= 'z';
        }

        private static boolean isDigit(int letter) {
            return letter >= '0' && letter <= '9';
        }

        private static boolean isSign(int letter) {
            return letter == '(' || letter == ')' || letter == ';' || letter == '+'
                    || letter == '-' || letter == '*' || letter == '<' || letter == '=';
        }

        private int token() {
            return at >= 0 && at < tokenCount && at < tokens.length ? tokens[at] : END;
        }

        private void goOn() {
            at++;
        }

        private boolean pass(int wanted) {
            if (token() != wanted) {
                return false;
            }
            goOn();
            return true;
        }

        private void emit(int step) {
            if (isBelow(stepCount, steps.length)) {
                steps[stepCount] = step;
                stepCount++;
            }
        }

        // What reads a part of the grammar answers whether it stood there; if not, the token at hand is the fault.

        private boolean readPart(int key) {
            return pass(key) && readOr(0) && pass(';');
        }

        private boolean readOr(int open) {
            if (!readAnd(open)) {
                return false;
            }
            for (int i = 0; i < TAPE_SIZE && token() == OR; i++) {
                goOn();
                if (!readAnd(open)) {
                    return false;
                }
                emit(Text.OR);
            }
            return true;
        }

        private boolean readAnd(int open) {
            if (!readNot(open)) {
                return false;
            }
            for (int i = 0; i < TAPE_SIZE && token() == AND; i++) {
                goOn();
                if (!readNot(open)) {
                    return false;
                }
                emit(Text.AND);
            }
            return true;
        }

        private boolean readNot(int open) {
            if (token() != NOT) {
                return readComparison(open);
            }
            if (open >= MOST_OPEN) {
                return false;
            }
            goOn();
            if (!readNot(open + 1)) {
                return false;
            }
            emit(Text.NOT);
            return true;
        }

        private boolean readComparison(int open) {
            if (!readSum(open)) {
                return false;
            }
            int sign = token();
            if (sign != '<' && sign != '=') {
                return true;
            }
            goOn();
            if (!readSum(open)) {
                return false;
            }
            emit(sign == '<' ? Text.LESS : Text.SAME);
            return true;
        }

        private boolean readSum(int open) {
            if (!readTerm(open)) {
                return false;
            }
            for (int i = 0; i < TAPE_SIZE && (token() == '+' || token() == '-'); i++) {
                int sign = token();
                goOn();
                if (!readTerm(open)) {
                    return false;
                }
                emit(sign == '+' ? Text.PLUS : Text.MINUS);
            }
            return true;
        }

        private boolean readTerm(int open) {
            if (!readOne(open)) {
                return false;
            }
            for (int i = 0; i < TAPE_SIZE && token() == '*'; i++) {
                goOn();
                if (!readOne(open)) {
                    return false;
                }
                emit(Text.TIMES);
            }
            return true;
        }

        private boolean readOne(int open) {
            int token = token();
            if (token == NUMBER) {
                return readNumber();
            }
            if (isBelow(token - NAME, Text.NAMES)) {
                goOn();
                emit(token - NAME << 4 | Text.NAME);
                return true;
            }
            if (token != '-' && token != '(' || open >= MOST_OPEN) {
                return false;
            }
            goOn();
            if (token == '(') {
                return readOr(open + 1) && pass(')');
            }
            if (!readOne(open + 1)) {
                return false;
            }
            emit(Text.NEGATE);
            return true;
        }

        private boolean readNumber() {
            if (!isBelow(at, values.length)) {
                return false;
            }
            emit(values[at] << 4 | Text.PUSH);
            goOn();
            return true;
        }
    }

    /** A carpet in thought: what it would do on any cell, by its own kind, number and text or by others. */
    private static final class Thought {
        private final int[] names = new int[Text.NAMES];
        // An operand takes a byte and what joins it another one: half a tape's size is enough.
        private final int[] stack = new int[TAPE_SIZE / 2];
        private int kind = RUG;
        private long walls = 0;
        private Text text = null;

        private void takeUp(Carpet carpet, long newWalls, int night) {
            kind = carpet.kind;
            walls = newWalls;
            names[Text.NUMBER] = carpet.number;
            names[Text.FLOWN] = carpet.flown;
            names[Text.NIGHT] = night;
        }

        private void beOfKind(int newKind) {
            kind = newKind;
        }

        private void beNumbered(int number) {
            names[Text.NUMBER] = number;
        }

        private void goBy(Text newText) {
            text = newText;
        }

        private int goal(int from, int word) {
            int column = from % SIDE + east(from, word);
            if (!isBelow(column, SIDE)) {
                return from;
            }
            int row = from / SIDE + south(from, word);
            if (!isBelow(row, SIDE)) {
                return from;
            }
            int goal = row * SIDE + column;
            return (walls >>> goal & 1L) == 1L ? from : goal;
        }

        private int firstWord(int from, int to) {
            for (int word = 0; word < WORDS; word++) {
                if (goal(from, word) == to) {
                    return word;
                }
            }
            return NONE;
        }

        private int wordCount(int from, int to) {
            int words = 0;
            for (int word = 0; word < WORDS; word++) {
                words += goal(from, word) == to ? 1 : 0;
            }
            return words;
        }

        private int east(int on, int word) {
            if (text == null) {
                return 0;
            }
            int v = bounded(valueOf(text.easts, on, word), -MOST_FAR, MOST_FAR);
            return bounded(eastOfKind(v, word), -MOST_FAR, MOST_FAR);
        }

        private int eastOfKind(int v, int word) {
            boolean wordIsOdd = word % 2 != 0;
            switch (kind) {
                case RUNNER:
                    return 2 * v;
                case MAT:
                    return wordIsOdd ? 0 : v;
                case PERSIAN:
                    return 2 * v + names[Text.NUMBER] % 3;
                case DOORMAT:
                    return wordIsOdd || names[Text.NIGHT] % 2 != 0 ? 0 : v;
                case FELT:
                    return -v;
                default:
                    return v;
            }
        }

        private int south(int on, int word) {
            if (text == null) {
                return 0;
            }
            int v = bounded(valueOf(text.souths, on, word), -MOST_FAR, MOST_FAR);
            return bounded(southOfKind(v, word), -MOST_FAR, MOST_FAR);
        }

        private int southOfKind(int v, int word) {
            switch (kind) {
                case MAT:
                case DOORMAT:
                    return v + 1;
                case PERSIAN:
                    return word > 5 ? -v : v;
                case FELT:
                    return v / 2;
                default:
                    return v;
            }
        }

        private int height(int on, int near) {
            if (text == null) {
                return 0;
            }
            int v = bounded(valueOf(text.rises, on, 0), 0, MOST_HIGH);
            return bounded(heightOfKind(v, near), 0, MOST_HIGH);
        }

        private int heightOfKind(int v, int near) {
            switch (kind) {
                case RUNNER:
                    return v + near + 2;
                case MAT:
                    return v;
                case PERSIAN:
                    return 2 * (v + near + 2);
                case DOORMAT:
                    return 0;
                default:
                    return v + near;
            }
        }

        private int valueOf(int[] steps, int on, int word) {
            names[Text.WORD] = word;
            names[Text.COLUMN] = on % SIDE;
            names[Text.ROW] = on / SIDE;
            int top = 0;
            for (int i = 0; i < steps.length; i++) {
                int what = steps[i] & 15;
                int operand = steps[i] >> 4;
                top -= what >= Text.OR ? 2 : what >= Text.NOT ? 1 : 0;
                if (top < 0 || top + 1 >= stack.length || operand < 0) {
                    return 0;
                }
                int one = stack[top];
                int other = stack[top + 1];
                switch (what) {
                    case Text.PUSH:
                        stack[top] = operand;
                        break;
                    case Text.NAME:
                        stack[top] = operand < names.length ? names[operand] : 0;
                        break;
                    case Text.NOT:
                        stack[top] = one == 0 ? 1 : 0;
                        break;
                    case Text.NEGATE:
                        stack[top] = -one;
                        break;
                    case Text.OR:
                        stack[top] = one != 0 || other != 0 ? 1 : 0;
                        break;
                    case Text.AND:
                        stack[top] = one != 0 && other != 0 ? 1 : 0;
                        break;
                    case Text.LESS:
                        stack[top] = one < other ? 1 : 0;
                        break;
                    case Text.SAME:
                        stack[top] = one == other ? 1 : 0;
                        break;
                    case Text.PLUS:
                        stack[top] = one + other;
                        break;
                    case Text.MINUS:
                        stack[top] = one - other;
                        break;
                    default:
                        stack[top] = one * other;
                        break;
                }
                top++;
            }
            return stack[0];
        }
    }

    /** All cells that a carpet can come to, found the nearest first and by the first row of words to each. */
    private static final class Ways {
        private final int[] steps = new int[CELLS];
        private final int[] ahead = new int[CELLS];
        private final int[] wordTo = new int[CELLS];
        private final int[] order = new int[CELLS];
        private final int[] goals = new int[CELLS * WORDS];
        private int found = 0;
        private int movingWords = 0;
        private long sinkBits = 0;

        /** Words are tried in their order on cells in the order they were found: so the first row comes first. */
        private void explore(Thought thought, int start) {
            Arrays.fill(steps, NONE);
            found = 0;
            movingWords = 0;
            sinkBits = 0;
            discover(start, start, 0, 0);
            for (int i = 0; i < found && i < CELLS; i++) {
                leave(thought, order[i]);
            }
        }

        private void leave(Thought thought, int from) {
            if (!isBelow(from, CELLS)) {
                return;
            }
            boolean moves = false;
            for (int word = 0; word < WORDS; word++) {
                int goal = thought.goal(from, word);
                goals[from * WORDS + word] = goal;
                if (goal != from) {
                    moves = true;
                    movingWords |= 1 << word;
                    discover(goal, from, word, steps[from] + 1);
                }
            }
            sinkBits |= moves ? 0 : 1L << from;
        }

        private void discover(int cell, int from, int word, int far) {
            if (isBelow(cell, CELLS) && steps[cell] == NONE && isBelow(found, CELLS)) {
                steps[cell] = far;
                ahead[cell] = from;
                wordTo[cell] = word;
                order[found] = cell;
                found++;
            }
        }

        private int start() {
            return order[0];
        }

        private int goalOf(int from, int word) {
            int at = from * WORDS + word;
            return isBelow(at, goals.length) ? goals[at] : from;
        }

        private int stepsTo(int cell) {
            return isBelow(cell, CELLS) ? steps[cell] : NONE;
        }

        private int digitsTo(int cell) {
            int far = stepsTo(cell);
            if (far == NONE || far > MOST_DIGITS) {
                return NONE;
            }
            int digits = 0;
            int place = 1;
            int at = cell;
            for (int i = 0; i < far && isBelow(at, CELLS); i++) {
                digits += (wordTo[at] + 1) * place;
                place *= 10;
                at = ahead[at];
            }
            return digits;
        }

        private long reached() {
            long bits = 0;
            for (int i = 0; i < found && i < CELLS; i++) {
                bits |= 1L << order[i];
            }
            return bits;
        }

        private long sinks() {
            return sinkBits;
        }

        private int idleWords() {
            return (1 << WORDS) - 1 & ~movingWords;
        }

        private int furthestCell() {
            int best = 0;
            for (int cell = 1; cell < CELLS; cell++) {
                best = steps[cell] > steps[best] ? cell : best;
            }
            return best;
        }

        /** How many rows lead to each cell, with one word more. */
        private void spread(long[] now, long[] next) {
            for (int i = 0; i < found && i < CELLS; i++) {
                int from = order[i];
                for (int word = 0; word < WORDS; word++) {
                    int goal = goalOf(from, word);
                    if (isBelow(goal, next.length) && isBelow(from, now.length)) {
                        next[goal] += now[from];
                    }
                }
            }
        }
    }

    /** Where two carpets come to lie when each word is said to both. */
    private static final class Pairs {
        private final int[] queue = new int[CELLS * CELLS];
        private final long[] seen = new long[CELLS];
        private int found = 0;
        private int steps = NONE;
        private int on = NONE;

        /** In the order of Ways.explore, and for the same reason: the first meeting found is by the first row. */
        private void seek(Ways one, Ways other) {
            Arrays.fill(seen, 0L);
            found = 0;
            steps = NONE;
            on = NONE;
            discover(one.start(), other.start(), 0);
            int from = 0;
            for (int far = 1; far < queue.length && from < found && on == NONE; far++) {
                int end = found;
                for (int i = from; i < end && i < queue.length && on == NONE; i++) {
                    leave(one, other, queue[i], far);
                }
                from = end;
            }
        }

        private void leave(Ways one, Ways other, int pair, int far) {
            for (int word = 0; word < WORDS && on == NONE; word++) {
                discover(one.goalOf(pair / CELLS, word), other.goalOf(pair % CELLS, word), far);
            }
        }

        private void discover(int first, int second, int far) {
            if (!isBelow(first, CELLS) || (seen[first] >>> second & 1L) == 1L || !isBelow(found, queue.length)) {
                return;
            }
            seen[first] |= 1L << second;
            queue[found] = first * CELLS + second;
            found++;
            if (first == second) {
                steps = far;
                on = first;
            }
        }
    }
}
