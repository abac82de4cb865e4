import java.util.TreeSet;
import java.util.function.Consumer;

/**
 * Every refusal of promises 2 to 28: of each number of a call just those that the document names are taken, the first
 * refusal that its words name is answered, and a refused call changes nothing.
 */
public final class RefusalsTest {
    private static final int NONE = Due.NONE, BAD = Due.BAD, STATE = Due.STATE, FULL = Due.FULL;
    private static final int MISSING = Due.MISSING, OUTSIDE = Due.OUTSIDE, OTHER_SORT = Due.OTHER_SORT;
    private static final int BELOW_0 = Due.BELOW_0, NONE_SUCH = Due.NONE_SUCH, MIN = Due.MIN, MAX = Due.MAX;
    private static final long NO = Due.NO;
    private static final String SHORT_TEXT = "easts 0;souths 0;rises 0;";

    private interface OfInt {
        long of(FlownOnceAndLaid x, int v);
    }

    public static void main(String[] args) throws IllegalAccessException {
        Each.of(RefusalsTest.class);
    }

    /** Three carpets, one of which came behind the image; sheet 2 is missing, sheet 3 tells no word and no cell. */
    private static void furnish(FlownOnceAndLaid x) {
        Due.text(x, "easts word-2;souths number-3;rises 4;");
        x.force(1);
        x.set(0, 0, 7);
        x.set(1, 3, 1);
        x.set(1, 20, 1);
        x.carpet(0, 2, 14);
        x.carpet(3, 4, 21);
        x.set(4, 1, 1);
        x.image();
        x.carpet(2, 5, 8);
        x.set(3, 0, 15);
        x.set(2, 1, 6);
        x.set(0, 0, 8);
        x.set(1, 20, 0);
        x.force(0);
        Due.fill(x, 0, 0, 1, 2, 3, 4, 5);
        Due.fill(x, 1, 1, 0, 9, 35, 6, 0, 1, 2);
        Due.fill(x, 3, 2, 8, 99, 36);
        Due.feed(x, "easts 1 -");
    }

    /** All four sheets are rows of ints that tell words, which are cells too. */
    private static void furnishSheets(FlownOnceAndLaid x) {
        furnish(x);
        for (int sheet = 0; sheet < 4; sheet++) {
            Due.fill(x, sheet, 2, 1, 2, 3, 4);
        }
    }

    private static void furnishWithFour(FlownOnceAndLaid x) {
        furnish(x);
        x.carpet(5, 1, 1);
    }

    private static TreeSet<Integer> tried(int least, int most) {
        TreeSet<Integer> tried = new TreeSet<>();
        for (int v = -40; v <= 45; v++) {
            tried.add(v);
        }
        int[] others = {MIN, MIN + 1, -65536, -1000, -257, -256, 99, 100, 128, 159, 160, 161, 254, 255, 256, 257, 998, 999,
            1000, 1001, 65535, 65536, 65537, 1 << 24, MAX - 2, MAX - 1, MAX, least - 1, least, most, most + 1};
        for (int v : others) {
            tried.add(v);
        }
        return tried;
    }

    private static void takes(String call, long refusal, int least, int most, OfInt asked) {
        takes(call, refusal, least, most, RefusalsTest::furnish, asked);
    }

    private static void takes(String call, long refusal, int least, int most, Consumer<FlownOnceAndLaid> told,
            OfInt asked) {
        for (int v : tried(least, most)) {
            boolean isTaken = v >= least && v <= most;
            FlownOnceAndLaid x = new FlownOnceAndLaid();
            told.accept(x);
            Due.is(call + " with " + v + " is taken", asked.of(x, v) == refusal ? 0 : 1, isTaken ? 1 : 0);
        }
        int[] beyond = {least - 1, most + 1, MIN, MAX};
        for (int v : beyond) {
            Twins.refuse(call + " with " + v, refusal, told, x -> asked.of(x, v));
        }
    }

    // ---- promise 2

    private static void setTakesWhat0To4() {
        takes("set(v, 0, 0)", BAD, 0, 4, (x, v) -> x.set(v, 0, 0));
    }

    private static void setTakesNights0To999() {
        takes("set(0, 0, v)", BAD, 0, 999, (x, v) -> x.set(0, 0, v));
    }

    private static void setTakesWallsOnCells0To35() {
        takes("set(1, v, 0)", BAD, 0, 35, (x, v) -> x.set(1, v, 0));
        takes("set(1, v, 1)", BAD, 0, 35, (x, v) -> x.set(1, v, 1));
    }

    private static void setTakesAWallAs1Or0() {
        takes("set(1, 3, v)", BAD, 0, 1, (x, v) -> x.set(1, 3, v));
        takes("set(1, 4, v)", BAD, 0, 1, (x, v) -> x.set(1, 4, v));
    }

    private static void setTakesCarpetsThatThereAre() {
        takes("set(2, v, 0)", BAD, 0, 2, (x, v) -> x.set(2, v, 0));
        takes("set(3, v, 0)", BAD, 0, 2, (x, v) -> x.set(3, v, 0));
        takes("set(4, v, 0)", BAD, 0, 2, (x, v) -> x.set(4, v, 0));
        takes("set(4, v, 1)", BAD, 0, 3, RefusalsTest::furnishWithFour, (x, v) -> x.set(4, v, 1));
    }

    private static void setTakesNumbers0To9() {
        takes("set(2, 0, v)", BAD, 0, 9, (x, v) -> x.set(2, 0, v));
    }

    private static void setTakesACarpetsCell0To35() {
        takes("set(3, 0, v)", BAD, 0, 35, (x, v) -> x.set(3, 0, v));
    }

    private static void setTakesFlownAs1Or0() {
        takes("set(4, 1, v)", BAD, 0, 1, (x, v) -> x.set(4, 1, v));
    }

    // ---- promise 3

    private static void carpetTakesKinds0To5() {
        takes("carpet(v, 0, 0)", BAD, 0, 5, (x, v) -> x.carpet(v, 0, 0));
    }

    private static void carpetTakesNumbers0To9() {
        takes("carpet(0, v, 0)", BAD, 0, 9, (x, v) -> x.carpet(0, v, 0));
    }

    private static void carpetTakesCells0To35() {
        takes("carpet(0, 0, v)", BAD, 0, 35, (x, v) -> x.carpet(0, 0, v));
    }

    private static void carpetIsFullBehindFour() {
        Twins.refuse("carpet(0, 0, 0), a fifth", FULL, RefusalsTest::furnishWithFour, x -> x.carpet(0, 0, 0));
    }

    private static void carpetIsBadAheadOfFull() {
        Twins.refuse("carpet(6, 0, 0), a fifth", BAD, RefusalsTest::furnishWithFour, x -> x.carpet(6, 0, 0));
        Twins.refuse("carpet(0, 10, 0), a fifth", BAD, RefusalsTest::furnishWithFour, x -> x.carpet(0, 10, 0));
        Twins.refuse("carpet(0, 0, 36), a fifth", BAD, RefusalsTest::furnishWithFour, x -> x.carpet(0, 0, 36));
    }

    // ---- promises 4 and 5

    private static void toldTakesWhat0To6And10To17() {
        takes("told(0, v)", BAD, 0, 17, (x, v) -> v >= 7 && v <= 9 ? 0 : x.told(0, v));
        for (int what = 7; what <= 9; what++) {
            int gap = what;
            Twins.refuse("told(0, " + what + ")", BAD, RefusalsTest::furnish, x -> x.told(0, gap));
        }
    }

    private static void toldTakesCells0To35OfAWall() {
        takes("told(v, 1)", BAD, 0, 35, (x, v) -> x.told(v, 1));
    }

    private static void toldTakesCarpetsThatThereAre() {
        int[] ofCarpets = {2, 3, 4, 5, 6, 10, 17};
        for (int what : ofCarpets) {
            takes("told(v, " + what + ")", BAD, 0, 2, (x, v) -> x.told(v, what));
        }
    }

    private static void asksTakesCarpetsThatThereAre() {
        takes("asks(v, 0, 0, 0)", NONE_SUCH, 0, 2, (x, v) -> x.asks(v, 0, 0, 0));
    }

    private static void asksTakesCells0To35() {
        takes("asks(0, v, 0, 0)", NONE_SUCH, 0, 35, (x, v) -> x.asks(0, v, 0, 0));
    }

    private static void asksTakesWords0To7() {
        takes("asks(0, 0, v, 0)", NONE_SUCH, 0, 7, (x, v) -> x.asks(0, 0, v, 0));
    }

    private static void asksTakesWhat0And1() {
        takes("asks(0, 0, 0, v)", NONE_SUCH, 0, 1, (x, v) -> x.asks(0, 0, 0, v));
    }

    // ---- promises 6 to 8

    private static void feedTakesBytes0To255() {
        takes("feed(v)", BAD, 0, 255, (x, v) -> x.feed(v));
    }

    private static void fillTape(FlownOnceAndLaid x) {
        for (int i = 0; i < 160; i++) {
            x.feed(97);
        }
    }

    private static void feedIsFullBehind160() {
        Twins.refuse("feed(97), one more", FULL, RefusalsTest::fillTape, x -> x.feed(97));
    }

    private static void feedIsBadAheadOfFull() {
        Twins.refuse("feed(256), one more", BAD, RefusalsTest::fillTape, x -> x.feed(256));
        Twins.refuse("feed(-1), one more", BAD, RefusalsTest::fillTape, x -> x.feed(-1));
    }

    private static void makeSixTexts(FlownOnceAndLaid x) {
        x.carpet(0, 2, 14);
        for (int i = 1; i < 6; i++) {
            Due.text(x, "easts " + i + ";souths " + i + ";rises " + i + ";");
        }
    }

    private static void textIsFullBehindSixAndTheTapeStays() {
        for (String tape : new String[] {"", SHORT_TEXT, SHORT_TEXT + "$", "(", " "}) {
            Consumer<FlownOnceAndLaid> told = x -> {
                makeSixTexts(x);
                Due.feed(x, tape);
            };
            Twins.refuse("text(), a seventh, of " + tape, FULL, told, FlownOnceAndLaid::text);
            FlownOnceAndLaid x = new FlownOnceAndLaid();
            told.accept(x);
            for (int i = 0; i < 3; i++) {
                Due.is("text(), a seventh, of " + tape, x.text(), FULL);
                Due.is("the tape stays", x.count(4), tape.length());
                Due.is("no text more", x.count(3), 6);
            }
        }
    }

    private static void forceTakesTextsThatThereAre() {
        takes("force(v)", BAD, 0, 1, (x, v) -> x.force(v));
        takes("force(v) of six", BAD, 0, 5, RefusalsTest::makeSixTexts, (x, v) -> x.force(v));
        takes("force(v) of one", BAD, 0, 0, x -> x.carpet(0, 0, 0), (x, v) -> x.force(v));
    }

    // ---- promises 9 and 10

    private static void sayTakesCarpetsThatThereAreAndNone() {
        takes("say(v, 3)", BAD, -1, 2, (x, v) -> x.say(v, 3));
    }

    private static void sayTakesWords0To7() {
        takes("say(0, v)", BAD, 0, 7, (x, v) -> x.say(0, v));
        takes("say(-1, v)", BAD, 0, 7, (x, v) -> x.say(NONE, v));
    }

    private static void fliesTakesSheets0To3() {
        takes("flies(v, 0, 0)", BAD, 0, 3, RefusalsTest::furnishSheets, (x, v) -> x.flies(v, 0, 0));
    }

    private static void fliesTakesCarpetsThatThereAre() {
        takes("flies(0, v, 0)", BAD, 0, 2, (x, v) -> x.flies(0, v, 0));
    }

    private static void fliesTakesWhat0And1() {
        takes("flies(0, 0, v)", BAD, 0, 1, (x, v) -> x.flies(0, 0, v));
    }

    private static void fliesFindsAMissingSheet() {
        Twins.refuse("flies(2, 0, 0)", MISSING, RefusalsTest::furnish, x -> x.flies(2, 0, 0));
    }

    private static void fliesIsBadAheadOfAMissingSheet() {
        Twins.refuse("flies(2, 3, 0)", BAD, RefusalsTest::furnish, x -> x.flies(2, 3, 0));
        Twins.refuse("flies(2, 0, 2)", BAD, RefusalsTest::furnish, x -> x.flies(2, 0, 2));
    }

    private static void fliesTakesSheetsOfWords0To7() {
        Twins.refuse("flies(3, 0, 0)", BAD, RefusalsTest::furnish, x -> x.flies(3, 0, 0));
        int[] places = {0, 2, 3};
        for (int place : places) {
            takes("flies by " + place, BAD, 0, 7, RefusalsTest::furnishSheets, (x, v) -> {
                x.cell(2, place, v);
                long answer = x.flies(2, 0, 0);
                x.cell(2, place, place + 1);
                return answer;
            });
        }
    }

    // ---- promises 11 to 16

    private static void shortestTakesCarpetsThatThereAre() {
        takes("shortest(v, 0, 0)", BAD, 0, 2, (x, v) -> x.shortest(v, 0, 0));
    }

    private static void shortestTakesCells0To35() {
        takes("shortest(0, v, 0)", BAD, 0, 35, (x, v) -> x.shortest(0, v, 0));
    }

    private static void shortestTakesWhat0And1() {
        takes("shortest(0, 0, v)", BAD, 0, 1, (x, v) -> x.shortest(0, 0, v));
    }

    private static void thereTakesCarpetsThatThereAre() {
        takes("there(v, 0)", NO, 0, 2, (x, v) -> x.there(v, 0));
    }

    private static void thereTakesWhat0And1() {
        takes("there(0, v)", NO, 0, 1, (x, v) -> x.there(0, v));
    }

    private static void furthestTakesCarpetsThatThereAre() {
        takes("furthest(v, 0)", BAD, 0, 2, (x, v) -> x.furthest(v, 0));
    }

    private static void furthestTakesWhat0To2() {
        takes("furthest(0, v)", BAD, 0, 2, (x, v) -> x.furthest(0, v));
    }

    private static void meetTakesTwoCarpetsThatThereAre() {
        takes("meet(v, 2, 0)", BAD, 0, 1, (x, v) -> v == 2 ? BAD : x.meet(v, 2, 0));
        takes("meet(0, v, 0)", BAD, 1, 2, (x, v) -> x.meet(0, v, 0));
        for (int carpet = 0; carpet < 3; carpet++) {
            int same = carpet;
            Twins.refuse("meet of one alone", BAD, RefusalsTest::furnish, x -> x.meet(same, same, 0));
        }
    }

    private static void meetTakesWhat0And1() {
        takes("meet(0, 1, v)", BAD, 0, 1, (x, v) -> x.meet(0, 1, v));
    }

    private static void rowsTakesCarpetsThatThereAre() {
        takes("rows(v, 0, 0)", NO, 0, 2, (x, v) -> x.rows(v, 0, 0));
    }

    private static void rowsTakesCells0To35() {
        takes("rows(0, v, 0)", NO, 0, 35, (x, v) -> x.rows(0, v, 0));
    }

    private static void rowsTakes0To20Words() {
        takes("rows(0, 0, v)", NO, 0, 20, (x, v) -> x.rows(0, 0, v));
    }

    private static void highestTakesWhat0And1() {
        takes("highest(v)", BAD, 0, 1, (x, v) -> x.highest(v));
        takes("highest(v) of none", BAD, 0, 1, x -> x.set(0, 0, 1), (x, v) -> x.highest(v));
    }

    // ---- promises 17 and 18

    private static void tellsTakesSheets0To3() {
        takes("tells(v, 0, 0)", BAD, 0, 3, RefusalsTest::furnishSheets, (x, v) -> x.tells(v, 0, 0));
    }

    private static void tellsTakesCarpetsThatThereAre() {
        takes("tells(0, v, 0)", BAD, 0, 2, (x, v) -> x.tells(0, v, 0));
    }

    private static void tellsTakesWhat0To5() {
        takes("tells(0, 0, v)", BAD, 0, 5, (x, v) -> x.tells(0, 0, v));
    }

    private static void tellsFindsAMissingSheet() {
        for (int what = 0; what < 6; what++) {
            int asked = what;
            Twins.refuse("tells(2, 0, " + what + ")", MISSING, RefusalsTest::furnish, x -> x.tells(2, 0, asked));
        }
    }

    private static void tellsIsBadAheadOfAMissingSheet() {
        Twins.refuse("tells(2, 3, 0)", BAD, RefusalsTest::furnish, x -> x.tells(2, 3, 0));
        Twins.refuse("tells(2, 0, 6)", BAD, RefusalsTest::furnish, x -> x.tells(2, 0, 6));
    }

    private static void tellsTakesSheetsOfCells0To35() {
        Twins.refuse("tells(3, 0, 0)", BAD, RefusalsTest::furnish, x -> x.tells(3, 0, 0));
        int[] places = {0, 2, 3};
        for (int place : places) {
            takes("tells of " + place, BAD, 0, 35, RefusalsTest::furnishSheets, (x, v) -> {
                x.cell(2, place, v);
                long answer = x.tells(2, 0, 0);
                x.cell(2, place, place + 1);
                return answer;
            });
        }
    }

    private static void tellsTakes20Cells() {
        for (int what = 0; what < 6; what++) {
            int asked = what;
            Consumer<FlownOnceAndLaid> told = x -> {
                furnish(x);
                x.sheet(2, 1, 21);
            };
            Twins.refuse("tells of 21", BAD, told, x -> x.tells(2, 0, asked));
            FlownOnceAndLaid x = new FlownOnceAndLaid();
            told.accept(x);
            x.sheet(2, 1, 20);
            Due.is("tells of 20 is taken", x.tells(2, 0, asked) == BAD ? 0 : 1, 1);
        }
    }

    private static void waysTakesSheets0To3() {
        takes("ways(v, 0, 0)", NO, 0, 3, RefusalsTest::furnishSheets, (x, v) -> x.ways(v, 0, 0));
    }

    private static void waysTakesCarpetsThatThereAre() {
        takes("ways(0, v, 0)", NO, 0, 2, (x, v) -> x.ways(0, v, 0));
        takes("ways(0, v, 1)", NO, 0, 2, (x, v) -> x.ways(0, v, 1));
    }

    private static void waysTakesWhat0And1() {
        takes("ways(0, 0, v)", NO, 0, 1, (x, v) -> x.ways(0, 0, v));
    }

    private static void waysFindsAMissingSheet() {
        Twins.refuse("ways(2, 0, 0)", NO, RefusalsTest::furnish, x -> x.ways(2, 0, 0));
        Twins.refuse("ways(2, 0, 1)", NO, RefusalsTest::furnish, x -> x.ways(2, 0, 1));
    }

    private static void waysTakesSheetsOfCells0To35() {
        Twins.refuse("ways(3, 0, 0)", NO, RefusalsTest::furnish, x -> x.ways(3, 0, 0));
        takes("ways of", NO, 0, 35, RefusalsTest::furnishSheets, (x, v) -> {
            x.cell(2, 3, v);
            long answer = x.ways(2, 0, 1);
            x.cell(2, 3, 4);
            return answer;
        });
    }

    private static void waysTakes20Cells() {
        for (int what = 0; what < 2; what++) {
            int asked = what;
            Consumer<FlownOnceAndLaid> told = x -> {
                furnish(x);
                x.sheet(2, 0, 21);
            };
            Twins.refuse("ways of 21", NO, told, x -> x.ways(2, 0, asked));
            FlownOnceAndLaid x = new FlownOnceAndLaid();
            told.accept(x);
            x.sheet(2, 0, 20);
            Due.is("ways of 20 is taken", x.ways(2, 0, asked) == NO ? 0 : 1, 1);
        }
    }

    // ---- promises 19 and 20

    private static void drawnTakesCarpetsThatThereAre() {
        takes("drawn(0, v, 0)", BAD, 0, 2, (x, v) -> x.drawn(0, v, 0));
    }

    private static void drawnTakes0To99Words() {
        takes("drawn(0, 0, v)", BAD, 0, 99, (x, v) -> x.drawn(0, 0, v));
    }

    private static void drawnTakesAnySeed() {
        for (int seed : tried(MIN, MAX)) {
            FlownOnceAndLaid x = new FlownOnceAndLaid();
            furnish(x);
            Due.is("drawn(" + seed + ", 0, 0)", x.drawn(seed, 0, 0), 15);
            Due.is("chance(" + seed + ", 1, 0, 15, 0)", x.chance(seed, 1, 0, 15, 0), 1);
        }
    }

    private static void chanceTakes1To20Seeds() {
        takes("chance(0, v, 0, 0, 0)", NO, 1, 20, (x, v) -> x.chance(0, v, 0, 0, 0));
    }

    private static void chanceTakesCarpetsThatThereAre() {
        takes("chance(0, 1, v, 0, 0)", NO, 0, 2, (x, v) -> x.chance(0, 1, v, 0, 0));
    }

    private static void chanceTakesCells0To35() {
        takes("chance(0, 1, 0, v, 0)", NO, 0, 35, (x, v) -> x.chance(0, 1, 0, v, 0));
    }

    private static void chanceTakesParts0And1() {
        takes("chance(0, 1, 0, 0, v)", NO, 0, 1, (x, v) -> x.chance(0, 1, 0, 0, v));
    }

    // ---- promises 22 and 23

    private static void backHasNoImageAtFirst() {
        Consumer<FlownOnceAndLaid> told = x -> {
            x.carpet(1, 2, 3);
            x.set(1, 9, 1);
            x.set(0, 0, 77);
        };
        Twins.refuse("back()", STATE, told, FlownOnceAndLaid::back);
    }

    private static void countTakesWhat0To5() {
        takes("count(v)", BAD, 0, 5, (x, v) -> x.count(v));
    }

    // ---- promises 24 to 28

    private static void sheetTakesSheets0To3() {
        takes("sheet(v, 0, 1)", BAD, 0, 3, (x, v) -> x.sheet(v, 0, 1));
        takes("sheet(v, -1, 1)", BAD, 0, 3, (x, v) -> x.sheet(v, -1, 1));
    }

    private static void sheetTakesSorts0To2AndNone() {
        takes("sheet(0, v, 1)", BAD, -1, 2, (x, v) -> x.sheet(0, v, 1));
    }

    private static void sheetTakes40Numbers() {
        for (int sort = 0; sort < 3; sort++) {
            int of = sort;
            for (int n : tried(0, 40)) {
                FlownOnceAndLaid x = new FlownOnceAndLaid();
                Due.is("sheet(0, " + sort + ", " + n + ")", x.sheet(0, of, n), n > 40 ? BAD : n < 0 ? BELOW_0 : 1);
            }
            Twins.refuse("sheet(0, " + sort + ", 41)", BAD, RefusalsTest::furnish, x -> x.sheet(0, of, 41));
            Twins.refuse("sheet(0, " + sort + ", MAX)", BAD, RefusalsTest::furnish, x -> x.sheet(0, of, MAX));
        }
    }

    private static void sheetTakesNoSizeBelow0() {
        for (int sort = 0; sort < 3; sort++) {
            int of = sort;
            Twins.refuse("sheet(0, " + sort + ", -1)", BELOW_0, RefusalsTest::furnish, x -> x.sheet(0, of, -1));
            Twins.refuse("sheet(0, " + sort + ", MIN)", BELOW_0, RefusalsTest::furnish, x -> x.sheet(0, of, MIN));
        }
    }

    private static void sheetIsBadAheadOfASizeBelow0() {
        Twins.refuse("sheet(4, 0, -1)", BAD, RefusalsTest::furnish, x -> x.sheet(4, 0, -1));
        Twins.refuse("sheet(-1, 0, -1)", BAD, RefusalsTest::furnish, x -> x.sheet(-1, 0, -1));
        Twins.refuse("sheet(0, 3, -1)", BAD, RefusalsTest::furnish, x -> x.sheet(0, 3, -1));
        Twins.refuse("sheet(0, -2, -1)", BAD, RefusalsTest::furnish, x -> x.sheet(0, -2, -1));
    }

    private static void cellTakesSheets0To3() {
        takes("cell(v, 0, 5)", BAD, 0, 3, RefusalsTest::furnishSheets, (x, v) -> x.cell(v, 0, 5));
    }

    private static void cellFindsAMissingSheet() {
        Twins.refuse("cell(2, 0, 5)", MISSING, RefusalsTest::furnish, x -> x.cell(2, 0, 5));
    }

    private static void cellTakesItemsThatThereAre() {
        takes("cell(0, v, 6)", OUTSIDE, 0, 4, (x, v) -> x.cell(0, v, 6));
        takes("cell(1, v, 6)", OUTSIDE, 0, 6, (x, v) -> x.cell(1, v, 6));
        takes("cell(3, v, 6)", OUTSIDE, 0, 2, (x, v) -> x.cell(3, v, 6));
    }

    private static void cellFindsNoItemOfAnEmptySheet() {
        Consumer<FlownOnceAndLaid> told = x -> {
            furnish(x);
            x.sheet(0, 0, 0);
        };
        Twins.refuse("cell(0, 0, 6)", OUTSIDE, told, x -> x.cell(0, 0, 6));
    }

    private static void cellAnswersTheFirstThatIsNamed() {
        Twins.refuse("cell(4, -1, 6)", BAD, RefusalsTest::furnish, x -> x.cell(4, -1, 6));
        Twins.refuse("cell(2, -1, 6)", MISSING, RefusalsTest::furnish, x -> x.cell(2, -1, 6));
        Twins.refuse("cell(2, 99, 6)", MISSING, RefusalsTest::furnish, x -> x.cell(2, 99, 6));
    }

    private static void copyTakesSheets0To3() {
        takes("copy(v, 0, 0, 1, 2)", BAD, 0, 3, RefusalsTest::furnishSheets, (x, v) -> x.copy(v, 0, 0, 1, 2));
        takes("copy(0, 0, v, 1, 2)", BAD, 0, 3, RefusalsTest::furnishSheets, (x, v) -> x.copy(0, 0, v, 1, 2));
    }

    private static void copyFindsAMissingSheet() {
        Twins.refuse("copy(2, 0, 0, 0, 1)", MISSING, RefusalsTest::furnish, x -> x.copy(2, 0, 0, 0, 1));
        Twins.refuse("copy(0, 0, 2, 0, 1)", MISSING, RefusalsTest::furnish, x -> x.copy(0, 0, 2, 0, 1));
        Twins.refuse("copy(2, 0, 2, 0, 0)", MISSING, RefusalsTest::furnish, x -> x.copy(2, 0, 2, 0, 0));
    }

    private static void copyFindsUnlikeSorts() {
        int[][] unlike = {{0, 1}, {1, 0}, {0, 3}, {3, 0}, {1, 3}, {3, 1}};
        for (int[] two : unlike) {
            String call = "copy(" + two[0] + ", 0, " + two[1] + ", 0, 1)";
            Twins.refuse(call, OTHER_SORT, RefusalsTest::furnish, x -> x.copy(two[0], 0, two[1], 0, 1));
            Twins.refuse(call + ", none", OTHER_SORT, RefusalsTest::furnish, x -> x.copy(two[0], 0, two[1], 0, 0));
        }
    }

    private static void copyTakesItemsThatThereAre() {
        takes("copy(0, v, 1, 0, 2)", OUTSIDE, 0, 2, RefusalsTest::furnishSheets, (x, v) -> x.copy(0, v, 1, 0, 2));
        takes("copy(0, 0, 1, v, 2)", OUTSIDE, 0, 2, RefusalsTest::furnishSheets, (x, v) -> x.copy(0, 0, 1, v, 2));
        takes("copy(0, 1, 1, 0, v)", OUTSIDE, 0, 3, RefusalsTest::furnishSheets, (x, v) -> x.copy(0, 1, 1, 0, v));
        takes("copy(0, 0, 1, 1, v)", OUTSIDE, 0, 3, RefusalsTest::furnishSheets, (x, v) -> x.copy(0, 0, 1, 1, v));
        takes("copy(0, v, 1, 0, 0)", OUTSIDE, 0, 4, RefusalsTest::furnishSheets, (x, v) -> x.copy(0, v, 1, 0, 0));
        takes("copy(0, 0, 1, v, 0)", OUTSIDE, 0, 4, RefusalsTest::furnishSheets, (x, v) -> x.copy(0, 0, 1, v, 0));
        Twins.refuse("copy(0, MAX, 1, 0, MAX)", OUTSIDE, RefusalsTest::furnishSheets, x -> x.copy(0, MAX, 1, 0, MAX));
        Twins.refuse("copy(0, 4, 1, 4, -1)", OUTSIDE, RefusalsTest::furnishSheets, x -> x.copy(0, 4, 1, 4, -1));
    }

    private static void copyAnswersTheFirstThatIsNamed() {
        Twins.refuse("copy(2, 0, 4, 0, 1)", BAD, RefusalsTest::furnish, x -> x.copy(2, 0, 4, 0, 1));
        Twins.refuse("copy(-1, 0, 2, 0, 1)", BAD, RefusalsTest::furnish, x -> x.copy(-1, 0, 2, 0, 1));
        Twins.refuse("copy(4, 9, 0, 9, -1)", BAD, RefusalsTest::furnish, x -> x.copy(4, 9, 0, 9, -1));
        Twins.refuse("copy(2, 9, 0, 9, -1)", MISSING, RefusalsTest::furnish, x -> x.copy(2, 9, 0, 9, -1));
        Twins.refuse("copy(0, 9, 2, 9, -1)", MISSING, RefusalsTest::furnish, x -> x.copy(0, 9, 2, 9, -1));
        Twins.refuse("copy(0, 9, 1, 9, -1)", OTHER_SORT, RefusalsTest::furnish, x -> x.copy(0, 9, 1, 9, -1));
    }

    private static void carpetsTakesSheets0To3() {
        takes("carpets(v, 2, 0, 1)", BAD, 0, 3, RefusalsTest::furnishSheets, (x, v) -> x.carpets(v, 2, 0, 1));
    }

    private static void carpetsTakesSorts0To2() {
        takes("carpets(0, v, 0, 1)", BAD, 0, 2, (x, v) -> x.carpets(0, v, 0, 1));
    }

    private static void carpetsTakes0To4() {
        Consumer<FlownOnceAndLaid> told = x -> {
            furnish(x);
            Due.fill(x, 0, 0, 0, 1, 2, 1, 2, 3, 2, 3, 4, 3, 4, 5);
        };
        takes("carpets(0, 0, 0, v)", BAD, 0, 4, told, (x, v) -> x.carpets(0, 0, 0, v));
    }

    private static void carpetsFindsAnotherSort() {
        int[][] unlike = {{0, 1}, {0, 2}, {1, 0}, {1, 2}, {3, 0}, {3, 1}};
        for (int[] of : unlike) {
            String call = "carpets(" + of[0] + ", " + of[1] + ", 0, 1)";
            Twins.refuse(call, OTHER_SORT, RefusalsTest::furnish, x -> x.carpets(of[0], of[1], 0, 1));
            Twins.refuse(call + ", none", OTHER_SORT, RefusalsTest::furnish, x -> x.carpets(of[0], of[1], 0, 0));
        }
    }

    private static void carpetsFindsAMissingSheet() {
        for (int sort = 0; sort < 3; sort++) {
            int of = sort;
            Twins.refuse("carpets(2, " + sort + ", 0, 1)", MISSING, RefusalsTest::furnish, x -> x.carpets(2, of, 0, 1));
            Twins.refuse("carpets(2, " + sort + ", 0, 0)", MISSING, RefusalsTest::furnish, x -> x.carpets(2, of, 0, 0));
        }
    }

    private static void carpetsTakesItemsThatThereAre() {
        takes("carpets(1, 1, v, 1)", OUTSIDE, 0, 4, (x, v) -> x.carpets(1, 1, v, 1));
        takes("carpets(0, 0, v, 1)", OUTSIDE, 0, 2, (x, v) -> x.carpets(0, 0, v, 1));
    }

    private static void carpetsAnswersTheFirstThatIsNamed() {
        Twins.refuse("carpets(4, 0, -1, 1)", BAD, RefusalsTest::furnish, x -> x.carpets(4, 0, -1, 1));
        Twins.refuse("carpets(2, 3, -1, 1)", BAD, RefusalsTest::furnish, x -> x.carpets(2, 3, -1, 1));
        Twins.refuse("carpets(2, 0, -1, 5)", BAD, RefusalsTest::furnish, x -> x.carpets(2, 0, -1, 5));
        Twins.refuse("carpets(0, 1, -1, 5)", BAD, RefusalsTest::furnish, x -> x.carpets(0, 1, -1, 5));
        Twins.refuse("carpets(0, 1, -1, 1)", OTHER_SORT, RefusalsTest::furnish, x -> x.carpets(0, 1, -1, 1));
        Twins.refuse("carpets(2, 1, -1, 1)", MISSING, RefusalsTest::furnish, x -> x.carpets(2, 1, -1, 1));
    }

    private static void takenTakesKinds0To5() {
        takes("taken(0, v)", BAD, 0, 5, (x, v) -> x.taken(0, v));
    }

    private static void takenFindsCarpetsThatThereAre() {
        takes("taken(v, 0)", MISSING, 0, 2, (x, v) -> x.taken(v, 0));
    }

    private static void takenFindsAnotherKind() {
        Twins.refuse("taken(0, 1)", OTHER_SORT, RefusalsTest::furnish, x -> x.taken(0, 1));
        Twins.refuse("taken(2, 4)", OTHER_SORT, RefusalsTest::furnish, x -> x.taken(2, 4));
    }

    private static void takenAnswersTheFirstThatIsNamed() {
        Twins.refuse("taken(3, 6)", BAD, RefusalsTest::furnish, x -> x.taken(3, 6));
        Twins.refuse("taken(-1, -1)", BAD, RefusalsTest::furnish, x -> x.taken(-1, -1));
        Twins.refuse("taken(3, 1)", MISSING, RefusalsTest::furnish, x -> x.taken(3, 1));
    }
}
