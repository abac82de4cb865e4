/** Promises 17 to 23: flights that were told, words that are drawn, the image, the counts. */
public final class ToldTest {
    private static final long NO = FlownOnceAndLaid.NO;
    private static final long ALL = (1L << 36) - 1;

    public static void main(String[] args) {
        whatCouldHaveBeenSaid();
        whatCannotBe();
        nothingTold();
        longFlights();
        kindsNumbersAndTexts();
        cellsItCouldBeOn();
        tellsRefuses();
        wordsThatAreDrawn();
        chances();
        theImage();
        theCounts();
        Due.end();
    }

    private static void whatCouldHaveBeenSaid() {
        FlownOnceAndLaid x = Due.by(Due.FOUR_WINDS);
        x.carpet(0, 0, 0);
        Due.fill(x, 0, 1, 1, 7, 7, 6, 0, 0);
        Due.is("can be", x.tells(0, 0, 0), -1);
        Due.is("the first row", x.tells(0, 0, 1), 135242);
        Due.is("for sure", x.tells(0, 0, 2), 4);
        Due.is("how many", x.ways(0, 0, 0), 4 * 6);
        Due.is("nothing moved", x.told(0, 3), 0);
    }

    private static void whatCannotBe() {
        FlownOnceAndLaid x = Due.by(Due.FOUR_WINDS);
        x.carpet(0, 0, 0);
        Due.fill(x, 0, 2, 1, 2, 4, 5);
        Due.is("2 to 4", x.tells(0, 0, 0), 2);
        Due.is("no row", x.tells(0, 0, 1), 0);
        Due.is("places where one word would do", x.tells(0, 0, 2), 3);
        Due.is("no kind", x.tells(0, 0, 3), 0);
        Due.is("no number", x.tells(0, 0, 4), 0);
        Due.is("no text", x.tells(0, 0, 5), 0);
        Due.is("how many", x.ways(0, 0, 0), 0);
        Due.is("from nowhere", x.ways(0, 0, 1), 0);
        Due.fill(x, 0, 2, 7);
        Due.is("the first can't be", x.tells(0, 0, 0), 0);
        Due.fill(x, 0, 2, 1);
        x.set(1, 1, 1);
        Due.is("onto a wall", x.tells(0, 0, 0), 0);
        x.set(3, 0, 1);
        Due.is("still on a wall", x.tells(0, 0, 0), -1);
        Due.is("still on a wall", x.ways(0, 0, 1), 2);
        x.sheet(0, 2, 20);
        x.cell(0, 19, 35);
        x.set(3, 0, 0);
        Due.is("a long one whose last can't be", x.tells(0, 0, 0), 19);
        Due.is("no row of a long one", x.tells(0, 0, 1), 0);
    }

    private static void nothingTold() {
        FlownOnceAndLaid x = Due.by(Due.FOUR_WINDS);
        x.carpet(0, 0, 0);
        x.set(1, 9, 1);
        x.sheet(2, 0, 0);
        int[] due = {-1, 0, 0, 63, 1023, 3};
        for (int what = 0; what < 6; what++) {
            Due.is("nothing told: " + what, x.tells(2, 0, what), due[what]);
        }
        Due.is("nothing told: how many", x.ways(2, 0, 0), 1);
        Due.is("nothing told: cells", x.ways(2, 0, 1), ALL);
    }

    private static void longFlights() {
        FlownOnceAndLaid x = Due.by("easts 0; souths 0; rises 0;");
        x.carpet(0, 0, 0);
        x.sheet(0, 2, 9);
        Due.is("nine", x.tells(0, 0, 1), 111111111);
        x.sheet(0, 2, 10);
        Due.is("ten", x.tells(0, 0, 1), -1);
        x.sheet(0, 2, 20);
        Due.is("twenty", x.tells(0, 0, 1), -1);
        Due.is("twenty", x.tells(0, 0, 0), -1);
        Due.is("twenty", x.ways(0, 0, 0), 1L << 60);
        x.sheet(0, 2, 21);
        Due.is("too many", x.tells(0, 0, 0), -2);
        Due.is("too many", x.ways(0, 0, 0), NO);
    }

    private static void kindsNumbersAndTexts() {
        FlownOnceAndLaid x = Due.by("easts 1; souths number = 4; rises 0;");
        x.carpet(0, 3, 0);
        Due.text(x, "easts 0; souths 1; rises 0;");
        Due.text(x, "easts 2 - word; souths 0; rises 0;");
        Due.fill(x, 0, 0, 1);
        Due.is("a rug", x.tells(0, 0, 3), 1);
        Due.is("a rug's numbers", x.tells(0, 0, 4), 1023 - 16);
        Due.is("a rug's texts", x.tells(0, 0, 5), 2 + 8);
        Due.fill(x, 0, 0, 7);
        Due.is("a mat (at even words), a doormat", x.tells(0, 0, 3), 4 + 16);
        Due.is("a rug 4", x.tells(0, 0, 4), 16);
        Due.fill(x, 0, 0, 2);
        Due.is("a runner, a persian", x.tells(0, 0, 3), 2 + 8);
        Due.fill(x, 0, 0, 6);
        Due.is("a mat (at odd words), a doormat", x.tells(0, 0, 3), 4 + 16);
        Due.is("no number", x.tells(0, 0, 4), 0);
        Due.is("text 2", x.tells(0, 0, 5), 4);
        Due.fill(x, 0, 0, 7);
        x.set(0, 0, 1);
        Due.is("a mat, no doormat in an odd night", x.tells(0, 0, 3), 4);
        x.carpet(3, 3, 0);
        Due.fill(x, 0, 0, 3);
        Due.is("a persian's numbers", x.tells(0, 1, 4), 1 << 1 | 1 << 7);
        Due.is("all is as it was", x.told(1, 2), 3);
        Due.is("all is as it was", x.told(1, 5), 3);
        Due.is("all is as it was", x.count(5), 1);
    }

    private static void cellsItCouldBeOn() {
        FlownOnceAndLaid x = Due.by(Due.FOUR_WINDS);
        x.carpet(0, 0, 35);
        Due.fill(x, 0, 2, 7, 8);
        Due.is("beside 7, or on it", x.ways(0, 0, 1), 1L << 1 | 1L << 6 | 1L << 7 | 1L << 8 | 1L << 13);
        x.set(1, 6, 1);
        Due.is("also on a wall", x.ways(0, 0, 1), 1L << 1 | 1L << 6 | 1L << 7 | 1L << 8 | 1L << 13);
        x.set(1, 8, 1);
        Due.is("8 is a wall", x.ways(0, 0, 1), 0);
        Due.is("how many", x.ways(0, 0, 0), 0);
    }

    private static void tellsRefuses() {
        FlownOnceAndLaid x = Due.by(Due.FOUR_WINDS);
        x.carpet(0, 0, 0);
        int[][] bad = {{-1, 0, 0}, {4, 0, 0}, {0, 1, 0}, {0, -1, 0}, {0, 0, -1}, {0, 0, 6}};
        for (int[] of : bad) {
            Due.is("tells(" + of[0] + ", " + of[1] + ", " + of[2] + ")", x.tells(of[0], of[1], of[2]), -2);
            Due.is("ways(" + of[0] + ", " + of[1] + ", " + of[2] + ")", x.ways(of[0], of[1], of[2]), NO);
        }
        Due.is("a missing sheet", x.tells(0, 0, 0), -11);
        Due.is("a missing sheet", x.ways(0, 0, 0), NO);
        Due.fill(x, 0, 2, 0, 36);
        Due.is("36 is no cell", x.tells(0, 0, 0), -2);
        Due.is("36 is no cell", x.ways(0, 0, 0), NO);
        Due.fill(x, 0, 2, -1);
        Due.is("-1 is no cell", x.tells(0, 0, 5), -2);
        Due.is("-1 is no cell", x.ways(0, 0, 1), NO);
        Due.fill(x, 0, 2, 0);
        Due.is("ways(0, 0, 2)", x.ways(0, 0, 2), NO);
        Due.is("ways(0, 0, 1)", x.ways(0, 0, 1), 1 + 2 + 64);
    }

    private static void wordsThatAreDrawn() {
        FlownOnceAndLaid x = Due.by("easts word; souths 0; rises 0;");
        x.carpet(0, 0, 0);
        // 12345 >>> 9 is 24, and 24 % 8 is 0; of seed 1: 1103527590 >>> 9 is 2155327, and 7 of 8.
        Due.is("drawn(0, 0, 0)", x.drawn(0, 0, 0), 0);
        Due.is("drawn(0, 0, 1)", x.drawn(0, 0, 1), 0);
        Due.is("drawn(1, 0, 1)", x.drawn(1, 0, 1), 5);
        int[] seeds = {0, 1, -1, 77, Integer.MIN_VALUE, Integer.MAX_VALUE, -123456};
        for (int seed : seeds) {
            int z = seed;
            int column = 0;
            for (int n = 1; n <= 99; n++) {
                z = z * 1103515245 + 12345;
                int word = (z >>> 9) % 8;
                column = column + Math.min(5, word) <= 5 ? column + Math.min(5, word) : column;
                Due.is("drawn(" + seed + ", 0, " + n + ")", new Fresh().drawn(seed, n), column);
            }
        }
        Due.is("drawn(0, 1, 0)", x.drawn(0, 1, 0), -2);
        Due.is("drawn(0, -1, 0)", x.drawn(0, -1, 0), -2);
        Due.is("drawn(0, 0, -1)", x.drawn(0, 0, -1), -2);
        Due.is("drawn(0, 0, 100)", x.drawn(0, 0, 100), -2);
        Due.is("nothing moved", x.told(0, 3), 0);
    }

    /** One object is used for 512 calls at most: so each draw has one of its own. */
    private static final class Fresh {
        private final FlownOnceAndLaid x = new FlownOnceAndLaid();

        private int drawn(int seed, int n) {
            Due.text(x, "easts word; souths 0; rises 0;");
            x.force(1);
            x.carpet(0, 0, 0);
            return x.drawn(seed, 0, n);
        }
    }

    private static boolean drawsWord(int seed, int wanted) {
        int z = seed;
        boolean drew = false;
        for (int i = 0; i < 12; i++) {
            z = z * 1103515245 + 12345;
            drew |= (z >>> 9) % 8 == wanted;
        }
        return drew;
    }

    private static void chances() {
        FlownOnceAndLaid x = Due.by("easts (word = 3)*(column = 0); souths 0; rises 0;");
        x.carpet(0, 0, 0);
        int[] seeds = {0, 5, -9, 1000, Integer.MAX_VALUE - 3};
        for (int seed : seeds) {
            int hits = 0;
            for (int m = 1; m <= 20; m++) {
                hits += drawsWord(seed + m - 1, 3) ? 1 : 0;
                int above = (int) x.chance(seed, m, 0, 1, 0);
                int below = (int) x.chance(seed, m, 0, 1, 1);
                Due.is("chance(" + seed + ", " + m + ") as a fraction", (long) above * m, (long) hits * below);
                boolean lowest = below >= 1 && below <= m;
                for (int d = 2; d <= 20; d++) {
                    lowest &= above % d != 0 || below % d != 0;
                }
                Due.is("chance(" + seed + ", " + m + ") in lowest terms", lowest ? 1 : 0, 1);
            }
        }
        Due.is("now", x.chance(4, 6, 0, 0, 0), 1);
        Due.is("now", x.chance(4, 6, 0, 0, 1), 1);
        Due.is("never", x.chance(4, 6, 0, 30, 0), 0);
        Due.is("never", x.chance(4, 6, 0, 30, 1), 1);
        int[][] bad = {{0, 0, 0, 0}, {21, 0, 0, 0}, {-1, 0, 0, 0}, {1, 1, 0, 0}, {1, -1, 0, 0},
            {1, 0, -1, 0}, {1, 0, 36, 0}, {1, 0, 0, -1}, {1, 0, 0, 2}};
        for (int[] of : bad) {
            Due.is("chance of " + java.util.Arrays.toString(of), x.chance(0, of[0], of[1], of[2], of[3]), NO);
        }
        FlownOnceAndLaid y = Due.by("easts 1; souths 0; rises 0;");
        y.carpet(0, 0, 0);
        Due.is("on its way", y.chance(0, 3, 0, 2, 0), 1);
    }

    private static void theImage() {
        FlownOnceAndLaid x = new FlownOnceAndLaid();
        Due.is("back(), no image", x.back(), -3);
        x.carpet(1, 2, 14);
        x.set(1, 4, 1);
        x.set(0, 0, 6);
        Due.text(x, "easts 0; souths 0; rises 5;");
        Due.is("image()", x.image(), 1);
        x.say(0, 1);
        x.set(2, 0, 8);
        x.set(1, 4, 0);
        x.set(1, 30, 1);
        x.set(0, 0, 7);
        x.carpet(0, 0, 0);
        Due.text(x, "easts 0; souths 0; rises 6;");
        x.force(2);
        x.feed(97);
        x.sheet(0, 0, 3);
        Due.is("moved", x.told(0, 3), 8);
        for (int i = 0; i < 2; i++) {
            Due.is("back()", x.back(), 1);
            int[] due = {6, 0, 2, 14, 0, 1};
            for (int what = 2; what <= 5; what++) {
                Due.is("back: told(0, " + what + ")", x.told(0, what), due[what]);
            }
            Due.is("back: night", x.told(0, 0), 6);
            Due.is("back: a wall", x.told(4, 1), 1);
            Due.is("back: no wall", x.told(30, 1), 0);
            Due.is("back: the rule", x.count(5), 0);
            Due.is("back: the carpet that came", x.told(1, 3), -2);
            Due.is("back: texts stay", x.count(3), 3);
            Due.is("back: the tape stays", x.count(4), 1);
            Due.is("back: sheets stay", x.cell(0, 2, 0), 1);
            x.force(1);
            x.set(3, 0, 0);
            x.set(4, 0, 1);
            x.set(0, 0, 1);
            Due.is("another one comes", x.carpet(5, 1, 1), 1);
        }
        Due.is("image()", x.image(), 2);
        x.set(4, 1, 1);
        x.force(0);
        Due.is("back()", x.back(), 2);
        Due.is("back: the later image", x.told(1, 5), 5);
        Due.is("back: the later image", x.told(0, 4), 1);
        Due.is("back: the later image", x.told(1, 4), 0);
        Due.is("back: the later image", x.count(5), 1);
        FlownOnceAndLaid y = new FlownOnceAndLaid();
        Due.is("image() of none", y.image(), 0);
        y.carpet(0, 0, 0);
        Due.is("back() to none", y.back(), 0);
        Due.is("count(0)", y.count(0), 0);
    }

    private static void theCounts() {
        FlownOnceAndLaid x = new FlownOnceAndLaid();
        x.carpet(0, 0, 0);
        x.carpet(0, 0, 1);
        x.set(1, 2, 1);
        x.set(1, 3, 1);
        x.set(1, 4, 1);
        x.set(4, 1, 1);
        Due.text(x, "easts 0; souths 0; rises 5;");
        Due.text(x, "easts 0; souths 0; rises 5;");
        Due.text(x, "easts 0; souths 0; rises 5;");
        x.force(2);
        for (int i = 0; i < 7; i++) {
            x.feed(48 + i);
        }
        int[] due = {2, 3, 1, 4, 7, 2};
        for (int what = 0; what < 6; what++) {
            Due.is("count(" + what + ")", x.count(what), due[what]);
        }
        Due.is("count(6)", x.count(6), -2);
        Due.is("count(-1)", x.count(-1), -2);
    }
}
