/** Promises 11 to 16: the shortest row, all cells there are, the furthest, meetings, rows, the highest. */
public final class WaysTest {
    private static final long ALL = (1L << 36) - 1;
    // Along each row to the east at word 7, and from its end to the next row's beginning at word 6.
    private static final String ROW_BY_ROW = "easts (word=7)*(column<5)-5*(word=6); souths word=6; rises 0;";

    public static void main(String[] args) throws IllegalAccessException {
        Each.of(WaysTest.class);
    }

    // ---- promise 11

    private static void shortest(FlownOnceAndLaid x, int on, int words, int row) {
        Due.is("how many to " + on, x.shortest(0, on, 0), words);
        Due.is("the row to " + on, x.shortest(0, on, 1), row);
    }

    private static void toItsOwnCellIsNoWord() {
        shortest(Due.rugs(0), 0, 0, 0);
        shortest(Due.rugs(35), 35, 0, 0);
    }

    private static void theFirstHighestOfSeveralRows() {
        FlownOnceAndLaid x = Due.rugs(0);
        shortest(x, 1, 1, 1);
        shortest(x, 6, 1, 3);
        shortest(x, 7, 2, 13);
        shortest(x, 14, 4, 1133);
        x.set(3, 0, 14);
        shortest(x, 0, 4, 2244);
    }

    private static void theFirstOfLikeWords() {
        FlownOnceAndLaid x = Due.oneBy("easts 1; souths 0; rises 0;", 0, 0, 0);
        shortest(x, 3, 3, 111);
        FlownOnceAndLaid y = Due.oneBy("easts 4<word; souths 0; rises 0;", 0, 0, 0);
        shortest(y, 3, 3, 666);
    }

    private static void theHighestDigitIs8() {
        FlownOnceAndLaid x = Due.oneBy("easts word=7; souths 0; rises 0;", 0, 0, 0);
        shortest(x, 5, 5, 88888);
    }

    private static void nineWordsAreTold() {
        shortest(Due.rugs(0), 29, 9, 111113333);
        FlownOnceAndLaid x = Due.oneBy(ROW_BY_ROW, 0, 0, 0);
        shortest(x, 8, 8, 88888788);
        shortest(x, 9, 9, 888887888);
    }

    private static void tenWordsAreNotTold() {
        shortest(Due.rugs(0), 35, 10, Due.NONE);
        shortest(Due.oneBy(ROW_BY_ROW, 0, 0, 0), 10, 10, Due.NONE);
    }

    private static void theLongestHas35Words() {
        shortest(Due.oneBy(ROW_BY_ROW, 0, 0, 0), 35, 35, Due.NONE);
    }

    private static void aWallIsNeverComeTo() {
        FlownOnceAndLaid x = Due.rugs(0);
        x.set(1, 1, 1);
        shortest(x, 1, Due.NONE, Due.NONE);
        shortest(x, 2, 4, 3114);
    }

    private static void thereIsNoWordAbove7() {
        FlownOnceAndLaid x = Due.oneBy("easts 7<word; souths 0; rises 0;", 0, 0, 0);
        shortest(x, 1, Due.NONE, Due.NONE);
        there(x, 1, 1);
        Due.is("all words are idle", x.furthest(0, 2), 255);
        Due.is("8 words lie still", x.rows(0, 0, 1), 8);
    }

    private static void offAWallAndNotBack() {
        FlownOnceAndLaid x = Due.rugs(1);
        x.set(1, 1, 1);
        shortest(x, 1, 0, 0);
        shortest(x, 0, 1, 2);
    }

    private static void whatIsNeverComeToIsNone() {
        FlownOnceAndLaid x = Due.oneBy("easts 1; souths 0; rises 0;", 0, 0, 3);
        shortest(x, 2, Due.NONE, Due.NONE);
        shortest(x, 9, Due.NONE, Due.NONE);
        shortest(x, 5, 2, 11);
    }

    private static void shortestMovesNone() {
        FlownOnceAndLaid x = Due.rugs(0);
        shortest(x, 35, 10, Due.NONE);
        Due.is("its cell", x.told(0, 3), 0);
        Due.is("it has not flown", x.told(0, 4), 0);
    }

    private static void inThoughtFlownIsAsItTrulyIs() {
        FlownOnceAndLaid x = Due.oneBy("easts 1 + flown; souths 0; rises 0;", 0, 0, 0);
        x.carpet(0, 0, 4);
        shortest(x, 2, 2, 11);
        Due.is("not flown: there", x.there(0, 0), 63);
        Due.is("not flown: furthest", x.furthest(0, 0), 5);
        Due.is("not flown: rows", x.rows(0, 2, 2), 64);
        Due.is("not flown: they meet on", x.meet(0, 1, 1), 5);
        x.set(4, 0, 1);
        shortest(x, 2, 1, 1);
        shortest(x, 1, Due.NONE, Due.NONE);
        Due.is("flown: there", x.there(0, 0), 1 + 4 + 16);
        Due.is("flown: furthest", x.furthest(0, 0), 4);
        Due.is("flown: rows", x.rows(0, 4, 2), 64);
        Due.is("one has flown: they never meet", x.meet(0, 1, 0), Due.NONE);
    }

    // ---- promise 12

    private static void there(FlownOnceAndLaid x, long cells, long sinks) {
        Due.is("THERE", x.there(0, 0), cells);
        Due.is("SINK", x.there(0, 1), sinks);
    }

    private static void allCellsAreThere() {
        there(Due.rugs(0), ALL, 0);
        there(Due.oneBy(ROW_BY_ROW, 0, 0, 0), ALL, 1L << 35);
    }

    private static void itsOwnCellIsThere() {
        FlownOnceAndLaid x = Due.rugs(0);
        x.set(1, 1, 1);
        x.set(1, 6, 1);
        there(x, 1, 1);
        there(Due.oneBy("easts 1; souths 0; rises 0;", 0, 0, 35), 1L << 35, 1L << 35);
    }

    private static void itsOwnCellIsThereAlsoOnAWall() {
        FlownOnceAndLaid x = Due.rugs(6);
        x.set(1, 6, 1);
        x.set(1, 1, 1);
        there(x, ALL & ~2, 1);
    }

    private static void cellsThatAreNotThereAreNoSinks() {
        FlownOnceAndLaid x = Due.rugs(35);
        x.set(1, 1, 1);
        x.set(1, 6, 1);
        there(x, ALL & ~(1 + 2 + 64), 0);
    }

    private static void aSlopeHasOneSink() {
        there(Due.oneBy("easts 1; souths 1; rises 0;", 0, 0, 3), 1L << 3 | 1L << 10 | 1L << 17, 1L << 17);
    }

    private static void sinksAreSoughtAnew() {
        FlownOnceAndLaid x = Due.rugs(0);
        x.set(1, 1, 1);
        x.set(1, 6, 1);
        there(x, 1, 1);
        x.set(1, 1, 0);
        there(x, ALL & ~64, 0);
    }

    private static void severalSinks() {
        FlownOnceAndLaid x = Due.oneBy("easts (column=2)*(1-2*(word<3)); souths 0; rises 0;", 0, 0, 2);
        there(x, 2 + 4 + 8, 2 + 8);
    }

    // ---- promise 13

    private static void furthest(FlownOnceAndLaid x, int cell, int words) {
        Due.is("FURTHEST", x.furthest(0, 0), cell);
        Due.is("how many words", x.furthest(0, 1), words);
    }

    private static void theFurthestOfAll() {
        furthest(Due.rugs(0), 35, 10);
        furthest(Due.rugs(35), 0, 10);
        furthest(Due.oneBy(ROW_BY_ROW, 0, 0, 0), 35, 35);
    }

    private static void ofLikeOnesTheFirst() {
        FlownOnceAndLaid x = Due.rugs(14);
        for (int i = 0; i < 6; i++) {
            x.set(1, 5 + 6 * i, 1);
            x.set(1, 30 + i, 1);
        }
        furthest(x, 0, 4);
        x.set(1, 0, 1);
        furthest(x, 4, 4);
        x.set(1, 4, 1);
        furthest(x, 24, 4);
    }

    private static void theFurthestOfOneThatLiesIsItsOwn() {
        furthest(Due.oneBy("easts 1; souths 1; rises 0;", 0, 0, 35), 35, 0);
        furthest(Due.oneBy("easts 1; souths 1; rises 0;", 0, 0, 5), 5, 0);
    }

    private static void anyCellMayBeTheFurthest() {
        for (int cell = 1; cell < 36; cell++) {
            FlownOnceAndLaid x = Due.oneBy(ROW_BY_ROW, 0, 0, 0);
            if (cell < 35) {
                x.set(1, cell + 1, 1);
            }
            furthest(x, cell, cell);
        }
        FlownOnceAndLaid y = Due.oneBy("easts 0-1; souths 0; rises 0;", 0, 0, 3);
        furthest(y, 0, 3);
    }

    private static void idleWordsMoveItFromNone() {
        Due.is("four winds", Due.rugs(0).furthest(0, 2), 0xF0);
        Due.is("it lies", Due.oneBy("easts 1; souths 1; rises 0;", 0, 0, 35).furthest(0, 2), 255);
        Due.is("none is idle", Due.oneBy("easts 1; souths 0; rises 0;", 0, 0, 0).furthest(0, 2), 0);
        Due.is("the highest alone moves", Due.oneBy("easts word=7; souths 0; rises 0;", 0, 0, 0).furthest(0, 2), 127);
    }

    private static void aWordThatMovesItFromOneCellAloneIsNotIdle() {
        FlownOnceAndLaid x = Due.oneBy("easts (word=3)*(column=2) + (word<2); souths 0; rises 0;", 0, 0, 0);
        Due.is("2 is of these", x.furthest(0, 2), 255 - 1 - 2 - 8);
        x.set(3, 0, 3);
        Due.is("2 is not of these", x.furthest(0, 2), 255 - 1 - 2);
    }

    // ---- promise 14

    private static void meet(FlownOnceAndLaid x, int one, int other, int words, int on) {
        Due.is("meet(" + one + ", " + other + ", 0)", x.meet(one, other, 0), words);
        Due.is("meet(" + one + ", " + other + ", 1)", x.meet(one, other, 1), on);
    }

    private static void twoOnOneCellHaveMet() {
        FlownOnceAndLaid x = Due.rugs(0, 35, 0, 35);
        meet(x, 0, 2, 0, 0);
        meet(x, 3, 1, 0, 35);
    }

    private static void twoMeetAtTheEdge() {
        FlownOnceAndLaid x = Due.rugs(0, 1, 7);
        meet(x, 0, 1, 1, 0);
        meet(x, 1, 0, 1, 0);
        meet(x, 0, 2, 2, 0);
        meet(x, 2, 0, 2, 0);
    }

    private static void theCellIsByTheFirstRow() {
        FlownOnceAndLaid x = Due.rugs(2, 3);
        meet(x, 0, 1, 3, 5);
        x.set(1, 5, 1);
        meet(x, 0, 1, 2, 4);
    }

    private static void theFurthestApart() {
        meet(Due.rugs(0, 35), 0, 1, 10, 35);
    }

    private static void twoThatNeverMeet() {
        FlownOnceAndLaid x = Due.oneBy("easts 0; souths 0; rises 0;", 0, 0, 0);
        x.carpet(0, 0, 1);
        meet(x, 0, 1, Due.NONE, Due.NONE);
    }

    private static void twoThatPassOneAnotherDoNotMeet() {
        // Each goes to where the other lies, for ever: they are never on one cell at once.
        FlownOnceAndLaid x = Due.oneBy("easts 1-2*column; souths 0; rises 0;", 0, 0, 0);
        x.carpet(0, 0, 1);
        meet(x, 0, 1, Due.NONE, Due.NONE);
    }

    private static void twoMeetEachByItsKind() {
        FlownOnceAndLaid x = Due.oneBy("easts 1; souths 0; rises 0;", 0, 0, 2);
        x.carpet(5, 0, 4);
        meet(x, 0, 1, 1, 3);
        x.set(3, 1, 5);
        meet(x, 0, 1, Due.NONE, Due.NONE);
    }

    private static void meetMovesNone() {
        FlownOnceAndLaid x = Due.rugs(0, 1);
        meet(x, 0, 1, 1, 0);
        Due.is("its cell", x.told(1, 3), 1);
        Due.is("it has not flown", x.count(2), 0);
    }

    // ---- promise 15

    private static void noWordLeadsToItsOwnCellAlone() {
        FlownOnceAndLaid x = Due.rugs(9);
        for (int cell = 0; cell < 36; cell++) {
            Due.is("rows(0, " + cell + ", 0)", x.rows(0, cell, 0), cell == 9 ? 1 : 0);
        }
    }

    private static void rowsOfFewWords() {
        FlownOnceAndLaid x = Due.rugs(0);
        Due.is("rows(0, 0, 1)", x.rows(0, 0, 1), 6);
        Due.is("rows(0, 1, 1)", x.rows(0, 1, 1), 1);
        Due.is("rows(0, 7, 1)", x.rows(0, 7, 1), 0);
        Due.is("rows(0, 0, 2)", x.rows(0, 0, 2), 38);
        Due.is("rows(0, 7, 2)", x.rows(0, 7, 2), 2);
    }

    private static void rowsOf20WordsAre8To20InAll() {
        FlownOnceAndLaid x = Due.rugs(0);
        long all = 0;
        for (int cell = 0; cell < 36; cell++) {
            all += x.rows(0, cell, 20);
        }
        Due.is("all cells", all, 1L << 60);
        FlownOnceAndLaid y = Due.oneBy("easts 0; souths 0; rises 0;", 0, 0, 9);
        Due.is("one cell", y.rows(0, 9, 20), 1L << 60);
        Due.is("another", y.rows(0, 10, 20), 0);
    }

    private static void rowsLeadToNoWall() {
        FlownOnceAndLaid x = Due.rugs(0);
        x.set(1, 1, 1);
        Due.is("to a wall", x.rows(0, 1, 1), 0);
        Due.is("still", x.rows(0, 0, 1), 7);
    }

    // ---- promise 16

    private static void highest(FlownOnceAndLaid x, int carpet, int much) {
        Due.is("highest(0)", x.highest(0), carpet);
        Due.is("highest(1)", x.highest(1), much);
    }

    private static void ofNoCarpetsNoneIsHighest() {
        highest(new FlownOnceAndLaid(), Due.NONE, Due.NONE);
    }

    private static void oneThatDoesNotRiseMayBeTheHighest() {
        highest(Due.oneBy("easts 0; souths 0; rises 9;", 4, 0, 0), 0, 0);
    }

    private static void ofLikeCarpetsTheFirstIsHighest() {
        FlownOnceAndLaid x = Due.by("easts 0; souths 0; rises number;");
        int[] cells = {0, 5, 30, 35};
        int[] numbers = {3, 4, 4, 4};
        for (int i = 0; i < 4; i++) {
            x.carpet(0, numbers[i], cells[i]);
        }
        highest(x, 1, 4);
        x.set(2, 0, 4);
        highest(x, 0, 4);
        x.set(2, 3, 5);
        highest(x, 3, 5);
    }

    private static void nearOnesMakeItHigher() {
        FlownOnceAndLaid x = Due.by("easts 0; souths 0; rises number;");
        x.carpet(0, 4, 0);
        x.carpet(0, 3, 35);
        x.carpet(2, 1, 34);
        x.carpet(2, 1, 35);
        highest(x, 1, 5);
    }

    private static void theBoundMakesLikeOnes() {
        FlownOnceAndLaid x = Due.by("easts 0; souths 0; rises 99;");
        x.carpet(0, 0, 0);
        x.carpet(3, 0, 35);
        highest(x, 0, 99);
    }
}
