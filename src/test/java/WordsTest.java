/** Promises 9 and 10: words that are said, words that a sheet tells. */
public final class WordsTest {
    public static void main(String[] args) {
        oneIsTold();
        allAreTold();
        flownChangesTheText();
        aSheetOfWords();
        fliesRefuses();
        Due.end();
    }

    private static void oneIsTold() {
        FlownOnceAndLaid x = Due.by(Due.FOUR_WINDS);
        x.carpet(0, 0, 0);
        x.carpet(0, 0, 7);
        Due.is("say(0, 1), outside", x.say(0, 1), 0);
        Due.is("not flown", x.told(0, 4), 0);
        Due.is("say(0, 4), nowhere", x.say(0, 4), 0);
        Due.is("say(0, 0)", x.say(0, 0), 1);
        Due.is("its cell", x.told(0, 3), 1);
        Due.is("flown", x.told(0, 4), 1);
        Due.is("the other's cell", x.told(1, 3), 7);
        Due.is("the other has not flown", x.told(1, 4), 0);
        Due.is("count(2)", x.count(2), 1);
        x.set(1, 2, 1);
        Due.is("say(0, 0), a wall", x.say(0, 0), 0);
        Due.is("its cell", x.told(0, 3), 1);
        Due.is("say(0, 2), onto the other", x.say(0, 2), 1);
        Due.is("its cell", x.told(0, 3), 7);
        Due.is("say(2, 0)", x.say(2, 0), -2);
        Due.is("say(-2, 0)", x.say(-2, 0), -2);
        Due.is("say(0, 8)", x.say(0, 8), -2);
        Due.is("say(0, -1)", x.say(0, -1), -2);
        Due.is("say(-1, 8)", x.say(-1, 8), -2);
        Due.is("its cell", x.told(0, 3), 7);
    }

    private static void allAreTold() {
        FlownOnceAndLaid x = Due.by(Due.FOUR_WINDS);
        Due.is("say(-1, 0), to none", x.say(-1, 0), 0);
        x.carpet(0, 0, 0);
        x.carpet(1, 0, 8);
        x.carpet(5, 0, 14);
        x.carpet(0, 0, 35);
        Due.is("say(-1, 0)", x.say(-1, 0), 3);
        int[] cells = {1, 10, 13, 35};
        int[] flown = {1, 1, 1, 0};
        for (int i = 0; i < 4; i++) {
            Due.is("cell of " + i, x.told(i, 3), cells[i]);
            Due.is("flown of " + i, x.told(i, 4), flown[i]);
        }
        Due.is("count(2)", x.count(2), 3);
        Due.is("say(-1, 7)", x.say(-1, 7), 0);
    }

    private static void flownChangesTheText() {
        FlownOnceAndLaid x = Due.by("easts 1 + flown; souths 0; rises flown;");
        x.carpet(0, 0, 0);
        Due.fill(x, 0, 2, 0, 0, 0);
        Due.is("in thought flown is as it truly is", x.flies(0, 0, 0), 3);
        Due.is("thoughts move none", x.told(0, 4), 0);
        Due.is("say(0, 0)", x.say(0, 0), 1);
        Due.is("its cell", x.told(0, 3), 1);
        Due.is("say(0, 0)", x.say(0, 0), 1);
        Due.is("its cell, having flown", x.told(0, 3), 3);
        x.set(3, 0, 1);
        Due.is("flies, having flown", x.flies(0, 0, 0), 5);
    }

    private static void aSheetOfWords() {
        FlownOnceAndLaid x = Due.by(Due.FOUR_WINDS);
        x.carpet(0, 0, 0);
        for (int sort = 0; sort < 3; sort++) {
            Due.fill(x, sort, sort, 0, 0, 1, 1, 1, 7, 2);
            Due.is("flies(" + sort + ", 0, 0)", x.flies(sort, 0, 0), 6);
            Due.is("flies(" + sort + ", 0, 1)", x.flies(sort, 0, 1), 5);
        }
        Due.is("nothing moved", x.told(0, 3), 0);
        x.sheet(3, 1, 40);
        Due.is("forty words", x.flies(3, 0, 0), 5);
        Due.is("forty words", x.flies(3, 0, 1), 5);
        x.sheet(3, 1, 0);
        Due.is("no words", x.flies(3, 0, 0), 0);
        Due.is("no words", x.flies(3, 0, 1), 0);
    }

    private static void fliesRefuses() {
        FlownOnceAndLaid x = Due.by(Due.FOUR_WINDS);
        x.carpet(0, 0, 0);
        Due.is("flies(-1, 0, 0)", x.flies(-1, 0, 0), -2);
        Due.is("flies(4, 0, 0)", x.flies(4, 0, 0), -2);
        Due.is("flies(0, 1, 0)", x.flies(0, 1, 0), -2);
        Due.is("flies(0, -1, 0)", x.flies(0, -1, 0), -2);
        Due.is("flies(0, 0, 2)", x.flies(0, 0, 2), -2);
        Due.is("flies(0, 0, -1)", x.flies(0, 0, -1), -2);
        Due.is("flies(0, 0, 0)", x.flies(0, 0, 0), -11);
        Due.fill(x, 0, 2, 0, 8);
        Due.is("8 is no word", x.flies(0, 0, 0), -2);
        Due.fill(x, 0, 2, -1, 0);
        Due.is("-1 is no word", x.flies(0, 0, 1), -2);
        Due.fill(x, 0, 0, 256 + 2, 0);
        Due.is("its lowest 8 bits are a word", x.flies(0, 0, 0), 7);
        Due.fill(x, 0, 0, 255, 0);
        Due.is("its lowest 8 bits are none", x.flies(0, 0, 0), -2);
    }
}
