/** Promises 9 and 10: words that are said, words that a sheet tells. */
public final class WordsTest {
    public static void main(String[] args) throws IllegalAccessException {
        Each.of(WordsTest.class);
    }

    // ---- promise 9

    private static void lies(FlownOnceAndLaid x, int carpet, int on, int flown) {
        Due.is("the cell of " + carpet, x.told(carpet, 3), on);
        Due.is("whether " + carpet + " has flown", x.told(carpet, 4), flown);
    }

    private static void oneThatMovesHasFlown() {
        FlownOnceAndLaid x = Due.rugs(0);
        Due.is("say(0, 0)", x.say(0, 0), 1);
        lies(x, 0, 1, 1);
        Due.is("count(2)", x.count(2), 1);
    }

    private static void oneThatLiesStillHasNotFlown() {
        FlownOnceAndLaid x = Due.rugs(0);
        Due.is("outside", x.say(0, 1), 0);
        Due.is("nowhere", x.say(0, 7), 0);
        x.set(1, 1, 1);
        Due.is("a wall", x.say(0, 0), 0);
        lies(x, 0, 0, 0);
        Due.is("count(2)", x.count(2), 0);
    }

    private static void oneThatHasFlownAndLiesStillHasFlown() {
        FlownOnceAndLaid x = Due.rugs(0);
        x.say(0, 0);
        Due.is("nowhere", x.say(0, 7), 0);
        lies(x, 0, 1, 1);
    }

    private static void oneThatComesBackHasFlown() {
        FlownOnceAndLaid x = Due.rugs(0);
        x.say(0, 0);
        Due.is("back again", x.say(0, 1), 1);
        lies(x, 0, 0, 1);
    }

    private static void othersDoNotHear() {
        FlownOnceAndLaid x = Due.rugs(0, 7, 14);
        Due.is("say(1, 0)", x.say(1, 0), 1);
        lies(x, 0, 0, 0);
        lies(x, 1, 8, 1);
        lies(x, 2, 14, 0);
    }

    private static void itMayComeToLieOnAnother() {
        FlownOnceAndLaid x = Due.rugs(0, 1);
        Due.is("say(0, 0)", x.say(0, 0), 1);
        lies(x, 0, 1, 1);
        lies(x, 1, 1, 0);
    }

    private static void sayMovesOffAWall() {
        FlownOnceAndLaid x = Due.rugs(0);
        x.set(1, 0, 1);
        Due.is("off", x.say(0, 0), 1);
        Due.is("not back on", x.say(0, 1), 0);
        lies(x, 0, 1, 1);
    }

    private static void allHear() {
        FlownOnceAndLaid x = Due.by(Due.FOUR_WINDS);
        x.carpet(0, 0, 0);
        x.carpet(1, 0, 8);
        x.carpet(5, 0, 14);
        x.carpet(0, 0, 35);
        Due.is("say(-1, 0)", x.say(-1, 0), 3);
        lies(x, 0, 1, 1);
        lies(x, 1, 10, 1);
        lies(x, 2, 13, 1);
        lies(x, 3, 35, 0);
        Due.is("count(2)", x.count(2), 3);
        Due.is("say(-1, 7)", x.say(-1, 7), 0);
        Due.is("say(-1, 3), a felt goes by a half", x.say(-1, 3), 2);
    }

    private static void fourMayMoveAtOnce() {
        FlownOnceAndLaid x = Due.rugs(0, 7, 14, 21);
        Due.is("say(-1, 2)", x.say(-1, 2), 4);
        for (int i = 0; i < 4; i++) {
            lies(x, i, 6 + 7 * i, 1);
        }
    }

    private static void allOfNoneAreNone() {
        Due.is("say(-1, 0)", new FlownOnceAndLaid().say(-1, 0), 0);
    }

    private static void aFlightChangesTheText() {
        FlownOnceAndLaid x = Due.oneBy("easts 1 + flown; souths 0; rises flown;", 0, 0, 0);
        Due.is("say(0, 0)", x.say(0, 0), 1);
        lies(x, 0, 1, 1);
        Due.is("say(0, 0)", x.say(0, 0), 1);
        lies(x, 0, 3, 1);
        Due.is("rises", x.told(0, 6), 1);
    }

    // ---- promise 10

    private static void fliesTellsTheCellAndHowOftenItMoves() {
        for (int sort = 0; sort < 3; sort++) {
            FlownOnceAndLaid x = Due.rugs(0);
            Due.fill(x, sort, sort, 0, 0, 1, 1, 1, 7, 2);
            Due.is("sort " + sort + ": the cell", x.flies(sort, 0, 0), 6);
            Due.is("sort " + sort + ": how often", x.flies(sort, 0, 1), 5);
        }
    }

    private static void fliesMovesNone() {
        FlownOnceAndLaid x = Due.rugs(0);
        Due.fill(x, 0, 0, 0);
        Due.is("the cell", x.flies(0, 0, 0), 1);
        lies(x, 0, 0, 0);
    }

    private static void aSheetMayTell40Words() {
        FlownOnceAndLaid x = Due.oneBy("easts 1-6*(column=5); souths 0; rises 0;", 0, 0, 0);
        x.sheet(3, 1, 40);
        Due.is("around, six by six", x.flies(3, 0, 0), 40 % 6);
        Due.is("forty moves", x.flies(3, 0, 1), 40);
    }

    private static void anEmptySheetTellsNoWords() {
        FlownOnceAndLaid x = Due.rugs(9);
        for (int sort = 0; sort < 3; sort++) {
            x.sheet(0, sort, 0);
            Due.is("the cell", x.flies(0, 0, 0), 9);
            Due.is("how often", x.flies(0, 0, 1), 0);
        }
    }

    private static void bytesAreCutToWords() {
        FlownOnceAndLaid x = Due.rugs(0);
        Due.fill(x, 0, 0, 256 + 2, 512);
        Due.is("their lowest 8 bits are words", x.flies(0, 0, 0), 7);
        Due.fill(x, 0, 0, 128);
        Due.is("their lowest 8 bits are none", x.flies(0, 0, 0), Due.BAD);
    }

    private static void shortsAreCutToWords() {
        FlownOnceAndLaid x = Due.rugs(0);
        Due.fill(x, 0, 1, 65536 + 2, -65536);
        Due.is("their lowest 16 bits are words", x.flies(0, 0, 0), 7);
        Due.fill(x, 0, 1, 256);
        Due.is("their lowest 16 bits are none", x.flies(0, 0, 0), Due.BAD);
        Due.fill(x, 0, 1, 32768);
        Due.is("their lowest 16 bits are none", x.flies(0, 0, 0), Due.BAD);
    }

    private static void intsAreNotCut() {
        FlownOnceAndLaid x = Due.rugs(0);
        int[] wide = {256, 65536, 1 << 24, Due.MIN};
        for (int v : wide) {
            Due.fill(x, 0, 2, v);
            Due.is(v + " is no word", x.flies(0, 0, 0), Due.BAD);
        }
    }

    private static void inThoughtFlownIsAsItTrulyIs() {
        FlownOnceAndLaid x = Due.oneBy("easts 1 + flown; souths 0; rises 0;", 0, 0, 0);
        Due.fill(x, 0, 2, 0, 0);
        Due.is("not flown", x.flies(0, 0, 0), 2);
        x.set(4, 0, 1);
        Due.is("flown", x.flies(0, 0, 0), 4);
    }
}
