/** Promises 6 to 8: the tape, the texts, the rule. */
public final class TextTest {
    private static final String REST = "; souths 0; rises 0;";
    private static final String KEYS_AND_NAMES = "easts souths rises or and not word number column row night flown";
    private static final String FIRST_TEXT = "easts 1 - word ; souths word - 2 ; rises 1 ;";

    public static void main(String[] args) throws IllegalAccessException {
        Each.of(TextTest.class);
    }

    // ---- promise 6

    private static void feedAnswersHowManyTheTapeHas() {
        FlownOnceAndLaid x = new FlownOnceAndLaid();
        for (int i = 1; i <= 160; i++) {
            Due.is("feed as " + i, x.feed(i == 1 ? 0 : i == 2 ? 255 : 32), i);
            Due.is("count(4)", x.count(4), i);
        }
    }

    private static void theTapeHas160BytesAtMost() {
        FlownOnceAndLaid x = new FlownOnceAndLaid();
        for (int i = 0; i < 159; i++) {
            x.feed(32);
        }
        Due.is("the last", x.feed(32), 160);
        Due.is("one more", x.feed(32), Due.FULL);
        Due.is("one more", x.feed(32), Due.FULL);
        Due.is("count(4)", x.count(4), 160);
        Due.is("text()", x.text(), -260);
        Due.is("room again", x.feed(32), 1);
    }

    private static void aByteThatHadNoRoomIsNotOnTheTape() {
        FlownOnceAndLaid x = new FlownOnceAndLaid();
        Due.feed(x, " ".repeat(160 - FIRST_TEXT.length()) + FIRST_TEXT);
        Due.is("one more", x.feed('$'), Due.FULL);
        Due.is("text()", x.text(), 1);
    }

    private static void aRefusedByteIsNotOnTheTape() {
        FlownOnceAndLaid x = new FlownOnceAndLaid();
        Due.feed(x, "easts 1");
        Due.is("feed(256 + 36)", x.feed(256 + 36), Due.BAD);
        Due.is("feed(-220)", x.feed(-220), Due.BAD);
        Due.feed(x, REST);
        Due.is("text()", x.text(), 1);
    }

    // ---- promise 7: what is left of the tape

    private static void theTapeIsEmptyBehindAText() {
        FlownOnceAndLaid x = new FlownOnceAndLaid();
        Due.is("a text", Due.text(x, FIRST_TEXT), 1);
        Due.is("count(4)", x.count(4), 0);
        Due.is("the next begins anew", Due.text(x, FIRST_TEXT), 2);
    }

    private static void theTapeIsEmptyBehindAFault() {
        FlownOnceAndLaid x = new FlownOnceAndLaid();
        Due.is("a fault", Due.text(x, "easts $"), -106);
        Due.is("count(4)", x.count(4), 0);
        Due.is("count(3)", x.count(3), 1);
        Due.is("the next begins anew", Due.text(x, FIRST_TEXT), 1);
    }

    private static void whatStoodOnTheTapeIsNotReadAgain() {
        FlownOnceAndLaid x = new FlownOnceAndLaid();
        Due.is("a fault", Due.text(x, "easts 1234; $"), -112);
        Due.is("no key is made of what was there", Due.text(x, "east"), -100);
        Due.is("a fault", Due.text(x, "easts 1234; $"), -112);
        Due.is("no number either", Due.text(x, "easts 12"), -108);
        Due.is("a fault", Due.text(x, FIRST_TEXT + "$"), -100 - FIRST_TEXT.length());
        Due.is("no end either", Due.text(x, FIRST_TEXT.substring(0, FIRST_TEXT.length() - 1)), -99 - FIRST_TEXT.length());
    }

    private static void aTextMayFillTheTape() {
        FlownOnceAndLaid x = new FlownOnceAndLaid();
        String ahead = "easts 0; souths 0; rises 7";
        Due.is("160 bytes", Due.text(x, ahead + " ".repeat(159 - ahead.length()) + ";"), 1);
        x.carpet(0, 0, 0);
        x.force(1);
        Due.is("rises", x.told(0, 6), 7);
    }

    private static void aLongSumIsReadWhole() {
        StringBuilder sum = new StringBuilder("1");
        String ahead = "easts 0;souths 0;rises ";
        while (ahead.length() + sum.length() + 3 <= 160) {
            sum.append("+1");
        }
        FlownOnceAndLaid x = Due.oneBy(ahead + sum + ";", 0, 0, 0);
        Due.is("so many ones", x.told(0, 6), (sum.length() + 1) / 2);
    }

    private static void textsAreNumberedInTheirOrder() {
        FlownOnceAndLaid x = new FlownOnceAndLaid();
        for (int i = 1; i <= 5; i++) {
            Due.is("a fault between", Due.text(x, "("), -100);
            Due.is("text " + i, Due.text(x, "easts 0; souths 0; rises " + i + ";"), i);
            Due.is("count(3)", x.count(3), i + 1);
        }
        x.carpet(0, 0, 0);
        for (int i = 5; i >= 1; i--) {
            x.force(i);
            Due.is("RISES by text " + i, x.told(0, 6), i);
        }
        x.force(0);
        Due.is("RISES by text 0", x.told(0, 6), 1);
    }

    private static void sixTextsAtMost() {
        FlownOnceAndLaid x = withTexts(5);
        Due.is("a seventh", Due.text(x, "easts 0;souths 0;rises 9;"), Due.FULL);
        Due.is("count(3)", x.count(3), 6);
        Due.is("the tape stays", x.count(4), 25);
        Due.is("and goes on", x.feed(32), 26);
    }

    private static FlownOnceAndLaid withTexts(int more) {
        FlownOnceAndLaid x = new FlownOnceAndLaid();
        for (int i = 1; i <= more; i++) {
            Due.is("text " + i, Due.text(x, "easts 0;souths 0;rises 0;"), i);
        }
        return x;
    }

    private static void isFullWith(String tape) {
        FlownOnceAndLaid x = withTexts(5);
        Due.feed(x, tape);
        for (int time = 1; time <= 2; time++) {
            Due.is("six texts, and the tape " + tape, x.text(), Due.FULL);
            Due.is("the tape stays", x.count(4), tape.length());
            Due.is("no text more", x.count(3), 6);
            Due.is("the rule stays", x.count(5), 0);
        }
        Due.is("the tape goes on", x.feed(' '), tape.length() + 1);
        Due.is("and is no text still", x.text(), Due.FULL);
    }

    private static void noRoomForAnEmptyTape() {
        isFullWith("");
    }

    private static void noRoomForAText() {
        isFullWith("easts 0;souths 0;rises 0;");
    }

    private static void noRoomForATapeWithAFault() {
        for (String tape : new String[] {" ", "(", "$", "7", "x", "easts 1 $", "easts 0;souths 0;rises 0", "easts 12345"}) {
            isFullWith(tape);
        }
    }

    private static void noRoomForATapeThatIsFull() {
        FlownOnceAndLaid x = withTexts(5);
        Due.feed(x, " ".repeat(160));
        Due.is("six texts, and a full tape", x.text(), Due.FULL);
        Due.is("the tape stays", x.count(4), 160);
        Due.is("no text more", x.count(3), 6);
        Due.is("the rule stays", x.count(5), 0);
        Due.is("and has no room", x.feed(32), Due.FULL);
    }

    private static void whileThereIsRoomAFaultIsTold() {
        FlownOnceAndLaid x = withTexts(4);
        Due.is("five texts, and an empty tape", x.text(), -100);
        Due.is("five texts, and a fault", Due.text(x, "easts 1 $"), -108);
        Due.is("the tape is empty then", x.count(4), 0);
        Due.is("no text more", x.count(3), 5);
        Due.is("the sixth", Due.text(x, "easts 0;souths 0;rises 0;"), 5);
        Due.is("the tape is empty then", x.count(4), 0);
        Due.is("six texts, and an empty tape", x.text(), Due.FULL);
    }

    // ---- promise 7: tokens

    private static void fault(String text, int place) {
        FlownOnceAndLaid x = new FlownOnceAndLaid();
        Due.is("the fault of " + text, Due.text(x, text), -100 - place);
        Due.is("the texts behind " + text, x.count(3), 1);
    }

    private static void good(String text) {
        FlownOnceAndLaid x = new FlownOnceAndLaid();
        Due.is(text, Due.text(x, text), 1);
        Due.is("the texts behind " + text, x.count(3), 2);
    }

    private static void wordsAreAsLongAsCanBe() {
        fault("easts wordrow" + REST, 6);
        fault("easts notnot 1" + REST, 6);
        fault("eastsouths 1" + REST, 0);
        fault("easts 1 orword" + REST, 8);
        good("easts 1 or word" + REST);
    }

    private static void aAndZAreLetters() {
        fault("easts wordz" + REST, 6);
        fault("easts worda" + REST, 6);
        fault("easts zword" + REST, 6);
        fault("easts aword" + REST, 6);
    }

    private static void everyLetterOfAWordCounts() {
        String[] words = KEYS_AND_NAMES.split(" ");
        for (String word : words) {
            for (int i = 0; i < word.length(); i++) {
                String other = word.substring(0, i) + (word.charAt(i) == 'q' ? 'x' : 'q') + word.substring(i + 1);
                fault("easts 1 " + other + " 1" + REST, 8);
                fault("easts " + other + REST, 6);
                fault(other + " 1" + REST, 0);
            }
        }
    }

    private static void numbersAreAsLongAsCanBe() {
        fault("easts 12 34" + REST, 9);
        Due.is("12", Due.oneBy("easts 0; souths 0; rises 12;", 0, 0, 0).told(0, 6), 12);
    }

    private static void wordsAndNumbersNeedNoBlanksBetween() {
        good("easts1;souths2;rises3;");
        fault("easts 1a" + REST, 7);
        fault("easts word1" + REST, 10);
        good("easts 1or 1and 1" + REST);
    }

    private static void numbersHave4DigitsAtMost() {
        good("easts 9999" + REST);
        good("easts 0000" + REST);
        fault("easts 10000" + REST, 6);
        fault("easts 00001" + REST, 6);
        fault("easts 1+12345" + REST, 8);
        fault("easts 1 12345" + REST, 8);
        Due.is("0099", Due.oneBy("easts 0; souths 0; rises 0099;", 0, 0, 0).told(0, 6), 99);
        Due.is("9999", Due.oneBy("easts 9999=9998+1; souths 0; rises 0;", 0, 0, 0).asks(0, 0, 0, 0), 1);
    }

    private static void blanks32And10MayStandBetween() {
        good(" \n easts \n 1 \n ; \n souths \n ( \n 0 \n ) \n ; \n rises \n - \n 0 \n ; \n ");
    }

    private static void blanksMayNotStandWithin() {
        fault("ea sts 1" + REST, 0);
        fault("easts wo\nrd" + REST, 6);
        fault("easts 1 2" + REST, 8);
    }

    private static int placeOfByte(int b) {
        // What may stand behind a ONE: the fault is what stands behind it, the ; of REST.
        boolean goesOn = "+-*<=;".indexOf(b) >= 0;
        return goesOn ? 9 : 8;
    }

    private static void everyByteInItsPlace() {
        for (int b = 0; b < 256; b++) {
            FlownOnceAndLaid x = new FlownOnceAndLaid();
            Due.feed(x, "easts 1 " + (char) b + REST);
            Due.is("byte " + b + " behind a ONE", x.text(), b == 32 || b == 10 ? 1 : -100 - placeOfByte(b));
            FlownOnceAndLaid y = new FlownOnceAndLaid();
            Due.feed(y, "easts 1" + REST + (char) b);
            Due.is("byte " + b + " behind all", y.text(), b == 32 || b == 10 ? 1 : -100 - 7 - REST.length());
            FlownOnceAndLaid z = new FlownOnceAndLaid();
            Due.feed(z, (char) b + "easts 1" + REST);
            Due.is("byte " + b + " ahead of all", z.text(), b == 32 || b == 10 ? 1 : -100);
        }
    }

    private static void everyKeyInItsPlace() {
        String[] keys = {"easts", "souths", "rises", "or", "and", "not"};
        for (String key : keys) {
            if (!key.equals("not")) {
                fault("easts " + key + " 1" + REST, 6);
            }
            boolean joins = key.equals("or") || key.equals("and");
            fault("easts 1 " + key + REST, joins ? 8 + key.length() : 8);
            if (!key.equals("easts")) {
                fault(key + " 1" + REST, 0);
            }
        }
        fault("easts 1; easts 1; rises 1;", 9);
        fault("easts 1; rises 1; souths 1;", 9);
        fault("easts 1; souths 1; souths 1;", 19);
        fault("easts 1; souths 1; easts 1;", 19);
    }

    private static void everyNameIsKnown() {
        String[] names = {"word", "number", "column", "row", "night", "flown"};
        for (String name : names) {
            good("easts " + name + REST);
            fault("easts " + name + "s" + REST, 6);
            fault("easts " + name.substring(1) + REST, 6);
            fault("easts 1 " + name + REST, 8);
            fault(name + " 1" + REST, 0);
        }
    }

    // ---- promise 7: where a fault lies

    private static void theFaultOfATextThatEndsTooEarlyIsItsSize() {
        // Where a word is cut, what is left of it is none: then that is the fault.
        int wordBegins = 0;
        for (int n = 0; n < FIRST_TEXT.length(); n++) {
            boolean within = n > 0 && isLetter(n - 1) && isLetter(n);
            wordBegins = within ? wordBegins : n;
            fault(FIRST_TEXT.substring(0, n), within ? wordBegins : n);
        }
        good(FIRST_TEXT);
    }

    private static boolean isLetter(int i) {
        return FIRST_TEXT.charAt(i) >= 'a' && FIRST_TEXT.charAt(i) <= 'z';
    }

    private static void theFaultOfAnEmptyTapeIs0() {
        fault("", 0);
    }

    private static void blanksAtTheEndCountToTheSize() {
        fault("  \n", 3);
        fault("easts ", 6);
        fault("easts 1; souths 1; rises 1 \n", 28);
        fault(" ".repeat(160), 160);
    }

    private static void theFaultMayBeTheLastByteOfTheTape() {
        String text = "easts 1" + REST;
        fault(text + " ".repeat(159 - text.length()) + "$", 159);
        fault(text + " ".repeat(155 - text.length()) + "12345", 155);
    }

    private static void whatStandsBehindATextIsTheFault() {
        fault("easts 1; souths 1; rises 1; 5", 28);
        fault("easts 1; souths 1; rises 1; easts 1; souths 1; rises 1;", 28);
        fault("easts 1; souths 1; rises 1;;", 27);
    }

    private static void theFirstFaultIsTheOneThatCounts() {
        fault("easts 1 1 $" + REST, 8);
        fault("easts $ 1 1" + REST, 6);
        fault("easts ) 12345", 6);
        fault("easts 1 2 abc ((((((1", 8);
        fault("souths $", 0);
    }

    private static void aByteThatBeginsNoneIsTheFault() {
        fault("easts 1$" + REST, 7);
        fault("easts word$" + REST, 10);
        fault("easts 1 > 2" + REST, 8);
        fault("Easts 1" + REST, 0);
        fault("easts 1 \t+ 2" + REST, 8);
    }

    private static void aWordThatIsNeitherKeyNorNameIsTheFault() {
        fault("east 1" + REST, 0);
        fault("eastss 1" + REST, 0);
        fault("easts foo" + REST, 6);
        fault("easts 1 foo" + REST, 8);
    }

    private static void aTokenThatCantStandIsTheFault() {
        fault("easts ;", 6);
        fault("easts () ;", 7);
        fault("easts (1 ;", 9);
        fault("easts (1", 8);
        fault("easts 1) ;", 7);
        fault("easts +1 ;", 6);
        fault("easts 1+ ;", 9);
        fault("easts 1 + + 1;", 10);
        fault("easts 1 * * 1;", 10);
        fault("easts * 1;", 6);
        fault("easts < 1;", 6);
        fault("easts = 1;", 6);
        fault("easts 1 and or 2;", 12);
        fault("easts 1 and", 11);
        fault("easts 1 (2);", 8);
        fault("easts (1)(2);", 9);
        fault("easts (1;)", 8);
    }

    private static void whatJoinsNeedsWhatItJoins() {
        String[] joiners = {"1 or", "1 and", "not", "1 <", "1 =", "1 +", "1 -", "1 *", "-", "("};
        for (String joiner : joiners) {
            fault("easts " + joiner + ";", 6 + joiner.length());
            fault("easts (" + joiner + ")" + REST, 7 + joiner.length());
            fault("easts " + joiner, 6 + joiner.length());
            fault("easts " + joiner + " or 1;", 7 + joiner.length());
            fault("easts " + joiner + "*1;", 6 + joiner.length());
        }
    }

    private static void oneComparisonToASum() {
        fault("easts 1 < 2 < 3;", 12);
        fault("easts 1 = 2 < 3;", 12);
        fault("easts 1 < 2 = 3;", 12);
        good("easts (1<2)<3" + REST);
        good("easts 1<2 and 2<3" + REST);
    }

    private static void notStandsAheadOfASumAlone() {
        fault("easts 1 + not 2;", 10);
        fault("easts 1 * not 2;", 10);
        fault("easts 1 < not 2;", 10);
        fault("easts - not 2;", 8);
        fault("easts 1 not 2;", 8);
        good("easts not not 1 and not 1=0 or not(0)" + REST);
        good("easts 1 + (not 2)" + REST);
    }

    // ---- promise 7: five that are open

    /** All rows of so many openers; not may not stand directly behind -, but for that all stand in all places. */
    private static void openers(int n, String row, int last) {
        if (n == 0) {
            int closers = row.length() - row.replace("(", "").length();
            String text = "easts " + row + "1" + ")".repeat(closers) + REST;
            if (last < 0) {
                good(text);
            } else {
                fault(text, 6 + last);
            }
            return;
        }
        String[] all = {"(", "-", "not "};
        for (String opener : all) {
            if (!opener.equals("not ") || !row.endsWith("-")) {
                openers(n - 1, row + opener, n == 1 && last != -1 ? row.length() : last);
            }
        }
    }

    private static void fiveMayBeOpen() {
        openers(5, "", -1);
    }

    private static void aSixthThatIsOpenIsTheFault() {
        openers(6, "", -2);
    }

    private static void aBracketIsOpenTillItsEnd() {
        good("easts (((((1)))))+(((((2)))))" + REST);
        good("easts (((((1)+(1)))))" + REST);
        fault("easts (((((1+(1))))))" + REST, 13);
        good("easts (((((1))))); souths (((((1))))); rises (((((1)))));");
    }

    private static void aMinusIsOpenTillItsOneEnds() {
        good("easts -----1*-----2" + REST);
        good("easts -----1 - -----2" + REST);
        good("easts ----(1)+----(2)" + REST);
        fault("easts -----(1)" + REST, 11);
    }

    private static void aNotIsOpenTillItsComparisonEnds() {
        good("easts not not not not not 1 and not not not not not 1" + REST);
        good("easts not not not not 1 < -1" + REST);
        fault("easts not not not not not 1 < -1" + REST, 30);
        fault("easts not not not not not 1 + (1)" + REST, 30);
        fault("easts not not not not not 1 * -1" + REST, 30);
        good("easts not not not not not 1 or -1" + REST);
    }

    private static void aMinusBetweenTermsIsNotOpen() {
        good("easts (((((1-1-1-1-1-1-1)))))-1" + REST);
        good("easts -----1-1" + REST);
        good("easts not not not not not 1 - 1" + REST);
        fault("easts (((((1- -1)))))" + REST, 14);
    }

    // ---- promises 7 and 8: what a text is worth

    private static void value(String e, int due) {
        Due.is("rises " + e, Due.oneBy("easts 0; souths 0; rises " + e + ";", 0, 3, 16).told(0, 6), Math.max(0, due));
        FlownOnceAndLaid x = Due.oneBy("easts " + e + "; souths 0; rises 0;", 0, 3, 16);
        Due.is("easts " + e, x.asks(0, 16, 0, 0), Math.max(-5, Math.min(5, due)));
    }

    private static void numbersSumsAndTerms() {
        value("7", 7);
        value("0007", 7);
        value("2+3*4", 14);
        value("2*3+4", 10);
        value("(2+3)*4", 20);
        value("10-3-2", 5);
        value("10-(3-2)", 9);
        value("10-3+2", 9);
        value("-3*-2", 6);
        value("- - 3", 3);
        value("-2+9", 7);
        value("2-9", -7);
        value("-3", -3);
        value("2*-2", -4);
        value("9--2", 11);
    }

    private static void notIs1Or0() {
        value("not 0", 1);
        value("not 5", 0);
        value("not -1", 0);
        value("not not 5", 1);
        value("not 1<0", 1);
        value("not 2=2", 0);
        value("(not 0)+5", 6);
        value("not 1-1", 1);
    }

    private static void comparisonsAre1Or0() {
        value("1<2", 1);
        value("2<2", 0);
        value("3<2", 0);
        value("2=2", 1);
        value("2=3", 0);
        value("-1<0", 1);
        value("1+1=2", 1);
        value("2<1+1", 0);
    }

    private static void orAndAndAre1Or0() {
        value("5 or 0", 1);
        value("0 or 5", 1);
        value("0 or 0", 0);
        value("5 or 5", 1);
        value("0 or 7 or 0", 1);
        value("5 and 2", 1);
        value("5 and 0", 0);
        value("0 and 5", 0);
        value("-1 and -1", 1);
        value("1 or 1 and 0", 1);
        value("(1 or 1) and 0", 0);
        value("0 and 1 or 1", 1);
        value("not 0 and 0", 0);
        value("not (0 and 0)", 1);
    }

    private static void aProductWraps() {
        value("4096*4096*128 < 0", 1);
        value("4096*4096*256", 0);
        value("4096*4096*256+5", 5);
        value("9999 * 9999 < 0", 0);
        value("9999*9999*21 < 0", 0);
        value("9999*9999*22 < 0", 1);
    }

    private static void aSumWraps() {
        value("4096*4096*64+4096*4096*64 < 0", 1);
        value("4096*4096*64+(4096*4096*64-1) < 0", 0);
    }

    private static void aDifferenceWraps() {
        value("4096*4096*128-1 < 0", 0);
        value("0 < 4096*4096*128-1", 1);
        value("4096*4096*128-4096*4096*128", 0);
    }

    private static void theLeastIntIs0LessItself() {
        value("4096*4096*128 = -(4096*4096*128)", 1);
        value("-(4096*4096*128) < 0", 1);
    }

    private static void aComparisonIsOfIntsNotOfTheirDifference() {
        value("4096*4096*128 < 1", 1);
        value("1 < 4096*4096*128", 0);
        value("4096*4096*128-1 < -2", 0);
    }

    private static void wordIsTheWordAndOfRises0() {
        FlownOnceAndLaid x = Due.oneBy("easts word; souths word - 2; rises word + 5;", 0, 3, 16);
        for (int word = 0; word < 8; word++) {
            Due.is("word of easts", x.asks(0, 16, word, 0), Math.min(5, word));
            Due.is("word of souths", x.asks(0, 16, word, 1), word - 2);
            Due.is("word of rises", x.told(0, 6), 5);
        }
    }

    private static void numberIsTheCarpets() {
        FlownOnceAndLaid x = Due.oneBy("easts number = 9; souths number = 3; rises number;", 0, 3, 16);
        Due.is("of easts", x.asks(0, 16, 0, 0), 0);
        Due.is("of souths", x.asks(0, 16, 0, 1), 1);
        x.set(2, 0, 9);
        Due.is("of easts", x.asks(0, 16, 0, 0), 1);
        Due.is("of souths", x.asks(0, 16, 0, 1), 0);
        Due.is("of rises", x.told(0, 6), 9);
    }

    private static void columnAndRowAreTheCells() {
        FlownOnceAndLaid x = Due.oneBy("easts column - 3; souths row - 3; rises row*6 + column;", 0, 3, 0);
        for (int cell = 0; cell < 36; cell++) {
            x.set(3, 0, cell);
            Due.is("column of " + cell, x.asks(0, cell, 0, 0), cell % 6 - 3);
            Due.is("row of " + cell, x.asks(0, cell, 0, 1), cell / 6 - 3);
            Due.is("row and column of " + cell, x.told(0, 6), cell);
        }
    }

    private static void nightIsTheFloors() {
        FlownOnceAndLaid x = Due.oneBy("easts night = 999; souths night; rises night - 950;", 0, 3, 16);
        Due.is("of easts", x.asks(0, 16, 0, 0), 0);
        x.set(0, 0, 999);
        Due.is("of easts", x.asks(0, 16, 0, 0), 1);
        Due.is("of souths", x.asks(0, 16, 0, 1), 5);
        Due.is("of rises", x.told(0, 6), 49);
    }

    private static void flownIsTheCarpets() {
        FlownOnceAndLaid x = Due.oneBy("easts flown; souths 0 - flown; rises 5*flown;", 0, 3, 16);
        x.carpet(0, 0, 35);
        x.set(4, 1, 1);
        Due.is("of easts", x.asks(0, 16, 0, 0), 0);
        Due.is("of rises", x.told(0, 6), 0);
        x.set(4, 0, 1);
        Due.is("of easts", x.asks(0, 16, 0, 0), 1);
        Due.is("of souths", x.asks(0, 16, 0, 1), -1);
        Due.is("of rises", x.told(0, 6), 5);
    }

    // ---- promise 8

    private static void forceAnswersWhichWasTheRule() {
        FlownOnceAndLaid x = new FlownOnceAndLaid();
        Due.is("force(0)", x.force(0), 0);
        Due.text(x, "easts 0; souths 0; rises 9;");
        Due.is("a text is not the rule at once", x.count(5), 0);
        Due.is("force(1)", x.force(1), 0);
        Due.is("count(5)", x.count(5), 1);
        Due.is("force(1)", x.force(1), 1);
        Due.is("force(0)", x.force(0), 1);
        Due.is("count(5)", x.count(5), 0);
    }

    private static void theLastOfSixTextsCanBeTheRule() {
        FlownOnceAndLaid x = new FlownOnceAndLaid();
        x.carpet(0, 0, 0);
        for (int i = 1; i <= 5; i++) {
            Due.text(x, "easts 0;souths 0;rises " + (10 + i) + ";");
        }
        Due.is("force(5)", x.force(5), 0);
        Due.is("rises", x.told(0, 6), 15);
    }
}
