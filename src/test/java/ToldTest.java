/** Promises 17 to 23: flights that were told, words that are drawn, the image, the counts. */
public final class ToldTest {
    private static final long ALL = (1L << 36) - 1;
    private static final String LIES = "easts 0; souths 0; rises 0;";

    public static void main(String[] args) throws IllegalAccessException {
        Each.of(ToldTest.class);
    }

    private static void tells(FlownOnceAndLaid x, int what, int due) {
        Due.is("tells(0, 0, " + what + ")", x.tells(0, 0, what), due);
    }

    // ---- promises 17 and 18

    private static void aFlightThatCanBe() {
        for (int sort = 0; sort < 3; sort++) {
            FlownOnceAndLaid x = Due.rugs(0);
            Due.fill(x, 0, sort, 1, 7, 7, 6, 0, 0);
            tells(x, 0, Due.NONE);
            tells(x, 1, 135242);
            tells(x, 2, 4);
            Due.is("how many", x.ways(0, 0, 0), 4 * 6);
        }
    }

    private static void theFirstThatCannotBe() {
        FlownOnceAndLaid x = Due.rugs(0);
        for (int wrong = 0; wrong < 20; wrong++) {
            x.sheet(0, 1, 20);
            x.cell(0, wrong, 35);
            tells(x, 0, wrong);
        }
    }

    private static void behindOneThatCannotBeTheToldCellIsTheOneAhead() {
        FlownOnceAndLaid x = Due.rugs(0);
        Due.fill(x, 0, 2, 14, 15, 17);
        tells(x, 0, 0);
        tells(x, 2, 1);
    }

    private static void aFlightThatCannotBe() {
        FlownOnceAndLaid x = Due.rugs(0);
        Due.fill(x, 0, 2, 1, 2, 4, 5);
        int[] due = {2, 0, 3, 0, 0, 0};
        for (int what = 0; what < 6; what++) {
            tells(x, what, due[what]);
        }
        Due.is("how many", x.ways(0, 0, 0), 0);
        Due.is("from nowhere", x.ways(0, 0, 1), 0);
    }

    private static void aWallCannotBeComeTo() {
        FlownOnceAndLaid x = Due.rugs(0);
        x.set(1, 1, 1);
        Due.fill(x, 0, 2, 1);
        tells(x, 0, 0);
        x.set(3, 0, 1);
        tells(x, 0, Due.NONE);
        Due.is("still on a wall", x.ways(0, 0, 1), 2);
    }

    private static void nothingTold() {
        for (int sort = 0; sort < 3; sort++) {
            FlownOnceAndLaid x = Due.rugs(0);
            x.set(1, 9, 1);
            x.sheet(0, sort, 0);
            int[] due = {Due.NONE, 0, 0, 63, 1023, 3};
            for (int what = 0; what < 6; what++) {
                tells(x, what, due[what]);
            }
            Due.is("how many", x.ways(0, 0, 0), 1);
            Due.is("all cells, also walls", x.ways(0, 0, 1), ALL);
        }
    }

    private static void nineToldAreDigits() {
        FlownOnceAndLaid x = Due.oneBy("easts 1-2*(word=7); souths 0; rises 0;", 0, 0, 0);
        Due.fill(x, 0, 0, 1, 0, 1, 0, 1, 0, 1, 0, 1);
        tells(x, 1, 181818181);
        FlownOnceAndLaid y = Due.oneBy("easts word=7; souths 0; rises 0;", 0, 0, 0);
        Due.fill(y, 0, 0, 1, 2, 3, 4, 5, 5, 5, 5, 5);
        tells(y, 1, 888881111);
    }

    private static void tenToldAreNoDigits() {
        FlownOnceAndLaid x = Due.oneBy(LIES, 0, 0, 0);
        x.sheet(0, 2, 9);
        tells(x, 1, 111111111);
        x.sheet(0, 2, 10);
        tells(x, 1, Due.NONE);
        x.sheet(0, 2, 20);
        tells(x, 1, Due.NONE);
    }

    private static void twentyToldAreTaken() {
        FlownOnceAndLaid x = Due.oneBy(LIES, 0, 0, 0);
        x.sheet(0, 2, 20);
        int[] due = {Due.NONE, Due.NONE, 0, 63 - 4 - 16, 1023, 3};
        for (int what = 0; what < 6; what++) {
            tells(x, what, due[what]);
        }
        Due.is("how many, 8 to 20", x.ways(0, 0, 0), 1L << 60);
        Due.is("from 0 alone", x.ways(0, 0, 1), 1);
    }

    private static void sureIsWhereJustOneWordWouldDo() {
        FlownOnceAndLaid x = Due.oneBy("easts (word=3)+2*(5<word); souths 0; rises 0;", 0, 0, 0);
        Due.fill(x, 0, 0, 1, 3, 3, 4);
        tells(x, 2, 2);
        FlownOnceAndLaid y = Due.oneBy("easts word=7; souths 0; rises 0;", 0, 0, 0);
        x.sheet(0, 0, 0);
        tells(x, 2, 0);
        Due.fill(y, 0, 0, 1, 2, 3, 4, 5);
        tells(y, 2, 5);
    }

    private static void sureIsOfToldPlacesAlone() {
        // One word would lead from the last told cell to 0, but 0 is not told.
        FlownOnceAndLaid x = Due.rugs(0);
        Due.fill(x, 0, 0, 1);
        tells(x, 2, 1);
        // One word would lie still on 0, but that is not told.
        FlownOnceAndLaid y = Due.oneBy("easts 0<word; souths 0; rises 0;", 0, 0, 0);
        Due.fill(y, 0, 0, 1);
        tells(y, 2, 0);
    }

    private static void thereIsNoWordAbove7() {
        FlownOnceAndLaid x = Due.oneBy("easts 7<word; souths 0; rises 0;", 0, 0, 0);
        Due.fill(x, 0, 0, 1);
        tells(x, 0, 0);
        tells(x, 1, 0);
        tells(x, 2, 0);
        Due.is("how many", x.ways(0, 0, 0), 0);
        Due.is("from its own cell alone", x.ways(0, 0, 1), 2);
        Due.fill(x, 0, 0, 0);
        Due.is("8 words lie still", x.ways(0, 0, 0), 8);
    }

    private static FlownOnceAndLaid asRug3() {
        FlownOnceAndLaid x = Due.oneBy("easts 1; souths number = 4; rises 0;", 0, 3, 0);
        Due.text(x, "easts 0; souths 1; rises 0;");
        Due.text(x, "easts 2 - word; souths 0; rises 0;");
        return x;
    }

    private static void kindsByWhichItWouldBe() {
        int[][] due = {{1, 1}, {7, 4 + 16}, {2, 2 + 8}, {6, 4 + 16}, {0, 32}};
        for (int[] of : due) {
            FlownOnceAndLaid x = asRug3();
            Due.fill(x, 0, 0, of[0]);
            tells(x, 3, of[1]);
        }
    }

    private static void theKindsNightCounts() {
        FlownOnceAndLaid x = asRug3();
        Due.fill(x, 0, 0, 7);
        x.set(0, 0, 1);
        tells(x, 3, 4);
    }

    private static void numbersByWhichItWouldBe() {
        FlownOnceAndLaid x = asRug3();
        Due.fill(x, 0, 0, 1);
        tells(x, 4, 1023 - 16);
        Due.fill(x, 0, 0, 7);
        tells(x, 4, 16);
        Due.fill(x, 0, 0, 6);
        tells(x, 4, 0);
        FlownOnceAndLaid y = Due.oneBy("easts number=9; souths number=0; rises 0;", 0, 5, 0);
        Due.fill(y, 0, 0, 1);
        tells(y, 4, 512);
        Due.fill(y, 0, 0, 6);
        tells(y, 4, 1);
    }

    private static void numbersOfAPersian() {
        FlownOnceAndLaid x = Due.oneBy("easts 1; souths 0; rises 0;", 3, 3, 0);
        for (int rest = 0; rest < 3; rest++) {
            Due.fill(x, 0, 0, 2 + rest);
            int due = 0;
            for (int number = rest; number < 10; number += 3) {
                due |= 1 << number;
            }
            tells(x, 4, due);
        }
    }

    private static void textsByWhichItWouldBe() {
        FlownOnceAndLaid x = asRug3();
        Due.fill(x, 0, 0, 1);
        tells(x, 5, 2 + 8);
        Due.fill(x, 0, 0, 6);
        tells(x, 5, 4);
        Due.fill(x, 0, 0, 0);
        tells(x, 5, 1 + 8);
    }

    private static void allSixTexts() {
        FlownOnceAndLaid x = new FlownOnceAndLaid();
        x.carpet(0, 0, 0);
        for (int i = 1; i <= 5; i++) {
            Due.text(x, "easts " + i + ";souths 0;rises 0;");
        }
        for (int i = 1; i <= 5; i++) {
            Due.fill(x, 0, 0, i);
            tells(x, 5, 1 << i);
        }
        Due.fill(x, 0, 0, 0);
        tells(x, 5, 1);
    }

    private static void tellsChangesNothing() {
        FlownOnceAndLaid x = asRug3();
        Due.fill(x, 0, 0, 1);
        for (int what = 0; what < 6; what++) {
            x.tells(0, 0, what);
            int[] due = {0, 0, 3, 0, 0, 0};
            for (int of = 2; of <= 5; of++) {
                Due.is("behind " + what + ": told(0, " + of + ")", x.told(0, of), due[of]);
            }
            Due.is("behind " + what + ": EAST", x.asks(0, 0, 0, 0), 1);
            Due.is("behind " + what + ": SOUTH", x.asks(0, 0, 0, 1), 0);
            Due.is("behind " + what + ": the rule", x.count(5), 1);
        }
    }

    private static void inThoughtFlownIsAsItTrulyIs() {
        FlownOnceAndLaid x = Due.oneBy("easts 1 + flown; souths 0; rises 0;", 0, 0, 0);
        Due.fill(x, 0, 0, 1, 2);
        tells(x, 0, Due.NONE);
        Due.is("not flown: how many", x.ways(0, 0, 0), 64);
        Due.is("not flown: from", x.ways(0, 0, 1), 1);
        x.set(4, 0, 1);
        tells(x, 0, 0);
        Due.fill(x, 0, 0, 2, 4);
        tells(x, 0, Due.NONE);
        Due.is("flown: from", x.ways(0, 0, 1), 1);
    }

    private static void cellsOnWhichItCouldBeNow() {
        FlownOnceAndLaid x = Due.rugs(35);
        long around = 1L << 1 | 1L << 6 | 1L << 7 | 1L << 8 | 1L << 13;
        Due.fill(x, 0, 2, 7, 8);
        Due.is("beside 7, or on it", x.ways(0, 0, 1), around);
        Due.is("not from its own cell", x.ways(0, 0, 0), 0);
        x.set(1, 6, 1);
        Due.is("also on a wall", x.ways(0, 0, 1), around);
        x.set(1, 8, 1);
        Due.is("8 is a wall", x.ways(0, 0, 1), 0);
    }

    private static void itCouldBeOnTheFirstAndTheLastCell() {
        FlownOnceAndLaid x = Due.rugs(7);
        Due.fill(x, 0, 2, 35);
        Due.is("to 35", x.ways(0, 0, 1), 1L << 35 | 1L << 34 | 1L << 29);
        Due.fill(x, 0, 2, 0);
        Due.is("to 0", x.ways(0, 0, 1), 1 + 2 + 64);
        Due.fill(x, 0, 2, 30);
        Due.is("to 30, not from beyond the floor", x.ways(0, 0, 1), 1L << 30 | 1L << 24 | 1L << 31);
    }

    // ---- promises 19 and 20

    private static int drawnBy(int seed, int n) {
        return Due.oneBy("easts word; souths 0; rises 0;", 0, 0, 0).drawn(seed, 0, n);
    }

    private static void noWordIsDrawn() {
        Due.is("drawn(0, 0, 0)", Due.rugs(9).drawn(0, 0, 0), 9);
        Due.is("drawn(MIN, 0, 0)", Due.rugs(9).drawn(Due.MIN, 0, 0), 9);
    }

    private static void oneWordIsDrawn() {
        // 12345 >>> 9 is 24, and 24 % 8 is 0; 1103527590 >>> 9 is 2155327, and 7 of 8: 5 to the east.
        Due.is("of 0", drawnBy(0, 1), 0);
        Due.is("of 1", drawnBy(1, 1), 5);
        // 2207042835 is below 0 as an int; >>> 9 it is 4310630, and 6 of 8.
        Due.is("of 2", drawnBy(2, 1), 5);
    }

    private static void upTo99WordsAreDrawnFromAnySeed() {
        int[] seeds = {0, 1, -1, 77, Due.MIN, Due.MAX, -123456};
        for (int seed : seeds) {
            int z = seed;
            int column = 0;
            for (int n = 1; n <= 99; n++) {
                z = z * 1103515245 + 12345;
                int far = Math.min(5, (z >>> 9) % 8);
                column = column + far <= 5 ? column + far : column;
                Due.is("drawn(" + seed + ", 0, " + n + ")", drawnBy(seed, n), column);
            }
        }
    }

    private static void drawnMovesNone() {
        FlownOnceAndLaid x = Due.oneBy("easts 1; souths 0; rises 0;", 0, 0, 0);
        Due.is("drawn(3, 0, 2)", x.drawn(3, 0, 2), 2);
        Due.is("chance(3, 2, 0, 2, 0)", x.chance(3, 2, 0, 2, 0), 1);
        Due.is("its cell", x.told(0, 3), 0);
        Due.is("it has not flown", x.told(0, 4), 0);
    }

    private static void inDrawnThoughtFlownIsAsItTrulyIs() {
        FlownOnceAndLaid x = Due.oneBy("easts 1 + flown; souths 0; rises 0;", 0, 0, 0);
        Due.is("drawn, not flown", x.drawn(0, 0, 2), 2);
        Due.is("chance, not flown", x.chance(0, 1, 0, 1, 0), 1);
        x.set(4, 0, 1);
        Due.is("drawn, flown", x.drawn(0, 0, 2), 4);
        Due.is("chance, flown", x.chance(0, 1, 0, 1, 0), 0);
    }

    /** Behind which word from 1 on a word is drawn first. */
    private static int firstDraw(int seed, int wanted) {
        int z = seed;
        for (int i = 1; i < 1000; i++) {
            z = z * 1103515245 + 12345;
            if ((z >>> 9) % 8 == wanted) {
                return i;
            }
        }
        return 1000;
    }

    private static FlownOnceAndLaid movesAt3() {
        return Due.oneBy("easts (word = 3)*(column = 0); souths 0; rises 0;", 0, 0, 0);
    }

    private static int seedWhose3IsDrawnAs(int place) {
        int seed = 0;
        while (firstDraw(seed, 3) != place) {
            seed++;
        }
        return seed;
    }

    private static void twelveWordsAreOfASeed() {
        int[] places = {1, 11, 12, 13, 14};
        for (int place : places) {
            int seed = seedWhose3IsDrawnAs(place);
            Due.is("by word " + place, movesAt3().chance(seed, 1, 0, 1, 0), place <= 12 ? 1 : 0);
        }
    }

    private static void chance(FlownOnceAndLaid x, int seed, int m, int on, int hits) {
        int divisor = m;
        while (hits % divisor != 0 || m % divisor != 0) {
            divisor--;
        }
        Due.is("above the line, " + seed + ", " + m, x.chance(seed, m, 0, on, 0), hits / divisor);
        Due.is("below the line, " + seed + ", " + m, x.chance(seed, m, 0, on, 1), m / divisor);
    }

    private static void upTo20SeedsInLowestTerms() {
        int[] seeds = {0, 5, -9, 1000, 123456789};
        for (int seed : seeds) {
            int hits = 0;
            for (int m = 1; m <= 20; m++) {
                hits += firstDraw(seed + m - 1, 3) <= 12 ? 1 : 0;
                chance(movesAt3(), seed, m, 1, hits);
            }
        }
    }

    private static void aSeedWraps() {
        for (int before = 0; before < 20; before++) {
            int seed = Due.MAX - before;
            int hits = 0;
            for (int i = 0; i < 20; i++) {
                hits += firstDraw(seed + i, 3) <= 12 ? 1 : 0;
            }
            chance(movesAt3(), seed, 20, 1, hits);
        }
    }

    private static void whereItLiesNowIsForSure() {
        FlownOnceAndLaid x = movesAt3();
        for (int m = 1; m <= 20; m++) {
            chance(x, 4, m, 0, m);
        }
    }

    private static void neverIs0Of1() {
        FlownOnceAndLaid x = movesAt3();
        for (int m = 1; m <= 20; m++) {
            chance(x, 4, m, 30, 0);
        }
    }

    private static void onItsWayCounts() {
        FlownOnceAndLaid x = Due.oneBy("easts 1; souths 0; rises 0;", 0, 0, 0);
        for (int cell = 0; cell < 6; cell++) {
            chance(x, 0, 3, cell, 3);
        }
        chance(x, 0, 3, 6, 0);
    }

    // ---- promises 21 and 22

    private static void imageAnswersHowManyCarpets() {
        FlownOnceAndLaid x = new FlownOnceAndLaid();
        for (int i = 0; i <= 4; i++) {
            Due.is("image()", x.image(), i);
            x.carpet(0, 0, 0);
            Due.is("back()", x.back(), i);
            Due.is("count(0)", x.count(0), i);
            x.carpet(0, 0, 0);
        }
    }

    private static void backLaysWalls() {
        FlownOnceAndLaid x = new FlownOnceAndLaid();
        x.set(1, 0, 1);
        x.set(1, 35, 1);
        x.image();
        x.set(1, 0, 0);
        x.set(1, 20, 1);
        x.back();
        Due.is("one that went", x.told(0, 1), 1);
        Due.is("one that stayed", x.told(35, 1), 1);
        Due.is("one that came", x.told(20, 1), 0);
        Due.is("count(1)", x.count(1), 2);
    }

    private static void backLaysTheNight() {
        FlownOnceAndLaid x = new FlownOnceAndLaid();
        x.set(0, 0, 998);
        x.image();
        x.set(0, 0, 999);
        x.back();
        Due.is("the night", x.told(0, 0), 998);
    }

    private static void backLaysNumbersCellsAndFlown() {
        FlownOnceAndLaid x = new FlownOnceAndLaid();
        x.carpet(1, 2, 14);
        x.carpet(5, 9, 35);
        x.set(4, 1, 1);
        x.image();
        x.set(2, 0, 8);
        x.say(0, 1);
        Due.is("it moved", x.told(0, 3), 8);
        x.set(2, 1, 0);
        x.set(3, 1, 0);
        x.set(4, 1, 0);
        x.back();
        int[][] due = {{0, 0, 2, 14, 0, 1}, {0, 0, 9, 35, 1, 5}};
        for (int carpet = 0; carpet < 2; carpet++) {
            for (int what = 2; what <= 5; what++) {
                Due.is("told(" + carpet + ", " + what + ")", x.told(carpet, what), due[carpet][what]);
            }
        }
    }

    private static void backLaysTheRule() {
        FlownOnceAndLaid x = Due.by(LIES);
        x.image();
        x.force(0);
        Due.is("back()", x.back(), 0);
        Due.is("the rule", x.count(5), 1);
        Due.is("which was", x.force(0), 1);
    }

    private static void carpetsThatCameSinceGo() {
        FlownOnceAndLaid x = new FlownOnceAndLaid();
        x.carpet(0, 0, 0);
        x.image();
        for (int i = 1; i < 4; i++) {
            x.carpet(i, i, i);
            x.set(4, i, 1);
        }
        Due.is("back()", x.back(), 1);
        Due.is("count(0)", x.count(0), 1);
        Due.is("count(2)", x.count(2), 0);
        for (int i = 1; i < 4; i++) {
            Due.is("told(" + i + ", 3)", x.told(i, 3), Due.BAD);
        }
        Due.is("another comes", x.carpet(4, 7, 30), 1);
        int[] due = {0, 0, 7, 30, 0, 4};
        for (int what = 2; what <= 5; what++) {
            Due.is("told(1, " + what + ")", x.told(1, what), due[what]);
        }
    }

    private static void textsTheTapeAndSheetsStayAsTheyAre() {
        FlownOnceAndLaid x = new FlownOnceAndLaid();
        x.feed(97);
        x.image();
        x.text();
        Due.text(x, LIES);
        Due.feed(x, "abc");
        x.sheet(0, 0, 3);
        x.back();
        Due.is("texts", x.count(3), 2);
        Due.is("the tape", x.count(4), 3);
        Due.is("a sheet", x.cell(0, 2, 0), 1);
        Due.is("the text can be the rule", x.force(1), 0);
    }

    private static void theImageStaysBehindBack() {
        FlownOnceAndLaid x = new FlownOnceAndLaid();
        x.carpet(0, 1, 2);
        x.image();
        for (int i = 0; i < 3; i++) {
            x.set(2, 0, 5);
            x.set(3, 0, 6);
            x.set(4, 0, 1);
            x.set(0, 0, 7);
            x.set(1, 8, 1);
            x.carpet(5, 5, 5);
            Due.is("back()", x.back(), 1);
            Due.is("number", x.told(0, 2), 1);
            Due.is("cell", x.told(0, 3), 2);
            Due.is("flown", x.told(0, 4), 0);
            Due.is("night", x.told(0, 0), 0);
            Due.is("wall", x.told(8, 1), 0);
        }
    }

    private static void aLaterImageIsTheOne() {
        FlownOnceAndLaid x = new FlownOnceAndLaid();
        x.carpet(0, 1, 2);
        x.image();
        x.carpet(5, 5, 5);
        x.set(0, 0, 3);
        Due.is("image()", x.image(), 2);
        x.set(0, 0, 4);
        Due.is("back()", x.back(), 2);
        Due.is("night", x.told(0, 0), 3);
        Due.is("kind", x.told(1, 5), 5);
    }

    private static void imageChangesNothing() {
        FlownOnceAndLaid x = new FlownOnceAndLaid();
        x.carpet(3, 1, 2);
        x.set(0, 0, 9);
        x.set(1, 4, 1);
        x.image();
        int[] due = {9, 0, 1, 2, 0, 3};
        for (int what = 2; what <= 5; what++) {
            Due.is("told(0, " + what + ")", x.told(0, what), due[what]);
        }
        Due.is("night", x.told(0, 0), 9);
        Due.is("wall", x.told(4, 1), 1);
    }

    // ---- promise 23

    private static void theCounts() {
        FlownOnceAndLaid x = new FlownOnceAndLaid();
        x.carpet(0, 0, 0);
        x.carpet(0, 0, 1);
        x.set(1, 2, 1);
        x.set(1, 3, 1);
        x.set(1, 4, 1);
        x.set(4, 1, 1);
        Due.text(x, LIES);
        Due.text(x, LIES);
        Due.text(x, LIES);
        x.force(2);
        for (int i = 0; i < 7; i++) {
            x.feed(48 + i);
        }
        int[] due = {2, 3, 1, 4, 7, 2};
        for (int what = 0; what < 6; what++) {
            Due.is("count(" + what + ")", x.count(what), due[what]);
        }
    }

    private static void fourMayHaveFlown() {
        FlownOnceAndLaid x = new FlownOnceAndLaid();
        for (int i = 0; i < 4; i++) {
            x.carpet(0, 0, i);
            Due.is("count(2)", x.count(2), i);
            x.set(4, i, 1);
        }
        Due.is("count(2)", x.count(2), 4);
    }
}
