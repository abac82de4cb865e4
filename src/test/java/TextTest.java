/** Promises 6 to 8: the tape, the texts, the rule. */
public final class TextTest {
    private static final String REST = "; souths 0; rises 0;";

    public static void main(String[] args) {
        theTape();
        valuesOfTexts();
        namesOfTexts();
        faults();
        faultsOfBytes();
        openOnes();
        sixTexts();
        theRule();
        Due.end();
    }

    private static void theTape() {
        FlownOnceAndLaid x = new FlownOnceAndLaid();
        Due.is("feed(-1)", x.feed(-1), -2);
        Due.is("feed(256)", x.feed(256), -2);
        Due.is("feed(0)", x.feed(0), 1);
        Due.is("feed(255)", x.feed(255), 2);
        for (int i = 3; i <= 160; i++) {
            Due.is("feed(32) as " + i, x.feed(32), i);
        }
        Due.is("feed(32), no room", x.feed(32), -4);
        Due.is("feed(256), no room", x.feed(256), -2);
        Due.is("count(4)", x.count(4), 160);
        Due.is("text()", x.text(), -100);
        Due.is("the tape is empty behind a fault", x.count(4), 0);
        String text = "easts 1; souths 1; rises 7;";
        StringBuilder whole = new StringBuilder(text);
        while (whole.length() < 160) {
            whole.append(whole.length() % 2 == 0 ? ' ' : '\n');
        }
        Due.is("a text of 160 bytes", Due.text(x, whole.toString()), 1);
        Due.is("the tape is empty behind a text", x.count(4), 0);
    }

    private static int worth(String e) {
        FlownOnceAndLaid x = Due.by("easts 0; souths 0; rises " + e + ";");
        x.carpet(0, 3, 16);
        return x.told(0, 6);
    }

    private static void value(String e, int due) {
        Due.is(e, worth(e), due);
    }

    private static void valuesOfTexts() {
        value("7", 7);
        value("0007", 7);
        value("2+3*4", 14);
        value("(2+3)*4", 20);
        value("10-3-2", 5);
        value("10-(3-2)", 9);
        value("-3*-2", 6);
        value("- - 3", 3);
        value("-2+9", 7);
        value("not 0", 1);
        value("not 5", 0);
        value("not not 5", 1);
        value("not 1<0", 1);
        value("not 2=2", 0);
        value("(not 0)+5", 6);
        value("1<2", 1);
        value("2<2", 0);
        value("3<2", 0);
        value("2=2", 1);
        value("2=3", 0);
        value("-1<0", 1);
        value("1+1=2", 1);
        value("5 or 0", 1);
        value("0 or 0", 0);
        value("0 or 7 or 0", 1);
        value("5 and 2", 1);
        value("5 and 0", 0);
        value("1 or 1 and 0", 1);
        value("(1 or 1) and 0", 0);
        value("not 0 and 0", 0);
        value("not (0 and 0)", 1);
        value("0 and 1 or 1", 1);
        value("9999 * 9999 < 0", 0);
        value("9999 * 9999 * 9999 < 0", 9999 * 9999 * 9999 < 0 ? 1 : 0);
        value("4096*4096*128 = -(4096*4096*128)", 1);
        value("4096*4096*128 < 0", 1);
        value("4096*4096*256", 0);
    }

    private static void namesOfTexts() {
        FlownOnceAndLaid x = Due.by("easts word; souths word - 2; rises word*50 + number*10 + column;");
        x.carpet(0, 3, 16);
        Due.is("word is 0 of rises", x.told(0, 6), 34);
        Due.is("word of easts", x.asks(0, 16, 3, 0), 3);
        Due.is("word of souths", x.asks(0, 16, 3, 1), 1);
        FlownOnceAndLaid y = Due.by("easts night; souths flown; rises row*10 + night + 5*flown;");
        y.carpet(0, 3, 16);
        y.set(0, 0, 4);
        Due.is("row, night", y.told(0, 6), 24);
        y.set(4, 0, 1);
        Due.is("row, night, flown", y.told(0, 6), 29);
        Due.is("night of easts", y.asks(0, 16, 0, 0), 4);
        Due.is("flown of souths", y.asks(0, 16, 0, 1), 1);
        FlownOnceAndLaid z = Due.by("easts column*(row=2); souths row*(column=1); rises 0;");
        z.carpet(0, 3, 16);
        Due.is("column of 16", z.asks(0, 16, 0, 0), 4);
        Due.is("row of 25", z.asks(0, 25, 0, 1), 4);
        Due.is("row of 26", z.asks(0, 26, 0, 1), 0);
        FlownOnceAndLaid first = new FlownOnceAndLaid();
        first.carpet(0, 0, 14);
        for (int word = 0; word < 8; word++) {
            Due.is("easts of TEXT 0 at " + word, first.asks(0, 14, word, 0), Math.max(-5, 1 - word));
            Due.is("souths of TEXT 0 at " + word, first.asks(0, 14, word, 1), word - 2);
        }
        Due.is("rises of TEXT 0", first.told(0, 6), 1);
    }

    private static void fault(String text, int place) {
        FlownOnceAndLaid x = new FlownOnceAndLaid();
        Due.is("fault of " + text, Due.text(x, text), -100 - place);
        Due.is("the tape behind " + text, x.count(4), 0);
        Due.is("the texts behind " + text, x.count(3), 1);
    }

    private static void good(String text) {
        FlownOnceAndLaid x = new FlownOnceAndLaid();
        Due.is(text, Due.text(x, text), 1);
        Due.is("the texts behind " + text, x.count(3), 2);
    }

    private static void faults() {
        fault("", 0);
        fault("  \n", 3);
        fault("easts", 5);
        fault("easts ", 6);
        fault("easts 1; souths 1; rises 1", 26);
        fault("easts 1; souths 1; rises 1 \n", 28);
        fault("easts 1; souths 1; rises 1; 5", 28);
        fault("easts 1; souths 1; rises 1; easts", 28);
        fault("easts 1; souths 1; rises 1;;", 27);
        fault("easts 1; rises 1;", 9);
        fault("souths 1;", 0);
        fault("  Easts 1;", 2);
        fault("east 1;", 0);
        fault("eastss 1;", 0);
        fault("easts foo" + REST, 6);
        fault("easts wordrow" + REST, 6);
        fault("easts easts" + REST, 6);
        fault("easts or" + REST, 6);
        fault("easts 1 1" + REST, 8);
        fault("easts 1a" + REST, 7);
        fault("easts 1 word" + REST, 8);
        fault("easts 12345" + REST, 6);
        fault("easts 1 12345" + REST, 8);
        fault("easts 00001" + REST, 6);
        fault("easts ;", 6);
        fault("easts () ;", 7);
        fault("easts (1 ;", 9);
        fault("easts 1) ;", 7);
        fault("easts +1 ;", 6);
        fault("easts 1+ ;", 9);
        fault("easts 1 < 2 < 3;", 12);
        fault("easts 1 = 2 < 3;", 12);
        fault("easts 1 + not 2;", 10);
        fault("easts 1 < not 2;", 10);
        fault("easts - not 2;", 8);
        fault("easts 1 not 2;", 8);
        fault("easts 1 and or 2;", 12);
        fault("easts 1 and", 11);
        good("easts1" + REST);
        good("easts 9999" + REST);
        good("easts 1 and not 1=0 or not(0)" + REST);
        good("easts\n1\n;souths(0);rises(0);");
        good(" easts 1;souths 1;rises 1; \n ");
        good("easts (1<2)<3" + REST);
    }

    private static void faultsOfBytes() {
        int[] others = {0, 9, 11, 13, 31, 33, 34, 44, 46, 47, 58, 62, 64, 65, 90, 91, 96, 123, 127, 128, 160, 255};
        for (int other : others) {
            FlownOnceAndLaid x = new FlownOnceAndLaid();
            for (char c : "easts 1 ".toCharArray()) {
                x.feed(c);
            }
            x.feed(other);
            for (char c : REST.toCharArray()) {
                x.feed(c);
            }
            Due.is("byte " + other + " begins none", x.text(), -108);
            FlownOnceAndLaid y = new FlownOnceAndLaid();
            for (char c : ("easts 1" + REST).toCharArray()) {
                y.feed(c);
            }
            y.feed(other);
            Due.is("byte " + other + " behind all", y.text(), -100 - 7 - REST.length());
        }
    }

    private static void openOnes() {
        good("easts (((((1)))))" + REST);
        fault("easts ((((((1))))))" + REST, 11);
        good("easts -----1" + REST);
        fault("easts ------1" + REST, 11);
        good("easts not not not not not 1" + REST);
        fault("easts not not not not not not 1" + REST, 26);
        good("easts not(-(-1))" + REST);
        good("easts not(not(-1))" + REST);
        fault("easts not(not(-(1)))" + REST, 15);
        fault("easts not(not(--1))" + REST, 15);
        fault("easts ((((( not 1)))))" + REST, 12);
        good("easts (((((1)))))+(((((2)))))" + REST);
        good("easts -----1*-----2" + REST);
        good("easts not not not not not 1 and not not not not not 1" + REST);
        fault("easts not not not not not 1 < -1" + REST, 30);
        good("easts not not not not 1 < -1" + REST);
        good("easts (((((1-1)))))-1" + REST);
        fault("easts 1 + (((((-1)))))" + REST, 15);
        good("easts (((((1))))); souths (((((1))))); rises (((((1)))));");
    }

    private static void sixTexts() {
        FlownOnceAndLaid x = new FlownOnceAndLaid();
        for (int i = 1; i <= 5; i++) {
            Due.is("text " + i, Due.text(x, "easts 0; souths 0; rises " + i + ";"), i);
            Due.is("a fault between", Due.text(x, "("), i < 5 ? -100 : -4);
        }
        Due.is("count(3)", x.count(3), 6);
        Due.is("the tape stays", x.count(4), 1);
        Due.is("text(), no room", x.text(), -4);
        Due.is("the tape stays", x.count(4), 1);
        x.carpet(0, 0, 0);
        for (int i = 5; i >= 1; i--) {
            x.force(i);
            Due.is("RISES by text " + i, x.told(0, 6), i);
        }
    }

    private static void theRule() {
        FlownOnceAndLaid x = new FlownOnceAndLaid();
        Due.is("force(0)", x.force(0), 0);
        Due.is("force(1)", x.force(1), -2);
        Due.is("force(-1)", x.force(-1), -2);
        Due.text(x, "easts 0; souths 0; rises 9;");
        Due.is("a text is not the rule at once", x.count(5), 0);
        Due.is("force(1)", x.force(1), 0);
        Due.is("force(6)", x.force(6), -2);
        Due.is("force(2)", x.force(2), -2);
        Due.is("count(5)", x.count(5), 1);
        Due.is("force(0)", x.force(0), 1);
        Due.is("force(1)", x.force(1), 0);
    }
}
