/** Promises 1 to 5: the floor, its carpets, how far they go and how high they rise. */
public final class FloorTest {
    private static final int RUG = 0, RUNNER = 1, MAT = 2, PERSIAN = 3, DOORMAT = 4, FELT = 5;
    private static final int NONE_SUCH = -1000;

    public static void main(String[] args) {
        aNewObject();
        nightAndWallsAreSet();
        carpetsAreSet();
        carpetsCome();
        carpetsAreTold();
        eastOfKinds();
        southOfKinds();
        boundsAreLaidOnTheTextAndOnceOnTheKind();
        risesOfKinds();
        nearIsAboveBelowLeftRightAndOwn();
        goalsOfWords();
        asksRefuses();
        Due.end();
    }

    private static void aNewObject() {
        FlownOnceAndLaid x = new FlownOnceAndLaid();
        int[] counts = {0, 0, 0, 1, 0, 0};
        for (int what = 0; what < counts.length; what++) {
            Due.is("new: count(" + what + ")", x.count(what), counts[what]);
        }
        Due.is("new: told(0, 0)", x.told(0, 0), 0);
        for (int cell = 0; cell < 36; cell++) {
            Due.is("new: told(" + cell + ", 1)", x.told(cell, 1), 0);
        }
        for (int sheet = 0; sheet < 4; sheet++) {
            Due.is("new: cell(" + sheet + ", 0, 0)", x.cell(sheet, 0, 0), -11);
        }
        Due.is("new: told(0, 3)", x.told(0, 3), FlownOnceAndLaid.BAD);
        Due.is("new: back()", x.back(), FlownOnceAndLaid.STATE);
        Due.is("new: NO", FlownOnceAndLaid.NO, -4611686018427387904L);
    }

    private static void nightAndWallsAreSet() {
        FlownOnceAndLaid x = new FlownOnceAndLaid();
        Due.is("set(0, -7, 999)", x.set(0, -7, 999), 0);
        Due.is("set(0, 99, 3)", x.set(0, 99, 3), 999);
        Due.is("set(0, 0, -1)", x.set(0, 0, -1), -2);
        Due.is("set(0, 0, 1000)", x.set(0, 0, 1000), -2);
        Due.is("told(-5, 0)", x.told(-5, 0), 3);
        Due.is("set(1, 35, 1)", x.set(1, 35, 1), 0);
        Due.is("set(1, 35, 1) again", x.set(1, 35, 1), 1);
        Due.is("set(1, 0, 1)", x.set(1, 0, 1), 0);
        Due.is("count(1)", x.count(1), 2);
        Due.is("set(1, 35, 0)", x.set(1, 35, 0), 1);
        Due.is("told(35, 1)", x.told(35, 1), 0);
        Due.is("told(0, 1)", x.told(0, 1), 1);
        Due.is("count(1)", x.count(1), 1);
        Due.is("set(1, -1, 1)", x.set(1, -1, 1), -2);
        Due.is("set(1, 36, 1)", x.set(1, 36, 1), -2);
        Due.is("set(1, 3, 2)", x.set(1, 3, 2), -2);
        Due.is("set(1, 3, -1)", x.set(1, 3, -1), -2);
        Due.is("told(-1, 1)", x.told(-1, 1), -2);
        Due.is("count(1)", x.count(1), 1);
    }

    private static void carpetsAreSet() {
        FlownOnceAndLaid x = new FlownOnceAndLaid();
        Due.is("carpet(1, 2, 3)", x.carpet(1, 2, 3), 0);
        Due.is("set(2, 0, 9)", x.set(2, 0, 9), 2);
        Due.is("set(2, 0, 0)", x.set(2, 0, 0), 9);
        Due.is("set(2, 0, 10)", x.set(2, 0, 10), -2);
        Due.is("set(2, 0, -1)", x.set(2, 0, -1), -2);
        Due.is("set(1, 35, 1)", x.set(1, 35, 1), 0);
        Due.is("set(3, 0, 35), on a wall", x.set(3, 0, 35), 3);
        Due.is("set(3, 0, 36)", x.set(3, 0, 36), -2);
        Due.is("set(3, 0, -1)", x.set(3, 0, -1), -2);
        Due.is("told(0, 3)", x.told(0, 3), 35);
        Due.is("to be set is not to fly", x.told(0, 4), 0);
        Due.is("set(4, 0, 1)", x.set(4, 0, 1), 0);
        Due.is("set(4, 0, 0)", x.set(4, 0, 0), 1);
        Due.is("set(4, 0, 2)", x.set(4, 0, 2), -2);
        Due.is("set(4, 0, -1)", x.set(4, 0, -1), -2);
        for (int what = 2; what <= 4; what++) {
            Due.is("set(" + what + ", 1, 0)", x.set(what, 1, 0), -2);
            Due.is("set(" + what + ", -1, 0)", x.set(what, -1, 0), -2);
            Due.is("set(" + what + ", 4, 0)", x.set(what, 4, 0), -2);
        }
        Due.is("set(5, 0, 0)", x.set(5, 0, 0), -2);
        Due.is("set(-1, 0, 0)", x.set(-1, 0, 0), -2);
    }

    private static void carpetsCome() {
        FlownOnceAndLaid x = new FlownOnceAndLaid();
        Due.is("carpet(-1, 0, 0)", x.carpet(-1, 0, 0), -2);
        Due.is("carpet(6, 0, 0)", x.carpet(6, 0, 0), -2);
        Due.is("carpet(0, -1, 0)", x.carpet(0, -1, 0), -2);
        Due.is("carpet(0, 10, 0)", x.carpet(0, 10, 0), -2);
        Due.is("carpet(0, 0, -1)", x.carpet(0, 0, -1), -2);
        Due.is("carpet(0, 0, 36)", x.carpet(0, 0, 36), -2);
        Due.is("count(0)", x.count(0), 0);
        for (int i = 0; i < 4; i++) {
            Due.is("carpet(5, 9, 35) as " + i, x.carpet(5, 9, 35), i);
            Due.is("told(" + i + ", 4)", x.told(i, 4), 0);
        }
        Due.is("carpet(0, 0, 0), no room", x.carpet(0, 0, 0), -4);
        Due.is("carpet(6, 0, 0), no room", x.carpet(6, 0, 0), -2);
        Due.is("count(0)", x.count(0), 4);
    }

    private static void carpetsAreTold() {
        FlownOnceAndLaid x = new FlownOnceAndLaid();
        x.carpet(FELT, 7, 20);
        x.set(4, 0, 1);
        int[] due = {0, 0, 7, 20, 1, 5};
        for (int what = 2; what <= 5; what++) {
            Due.is("told(0, " + what + ")", x.told(0, what), due[what]);
        }
        int[] noSuch = {-1, 7, 8, 9, 18, Integer.MIN_VALUE, Integer.MAX_VALUE};
        for (int what : noSuch) {
            Due.is("told(0, " + what + ")", x.told(0, what), -2);
        }
        int[] ofCarpets = {2, 3, 4, 5, 6, 10, 17};
        for (int what : ofCarpets) {
            Due.is("told(1, " + what + ")", x.told(1, what), -2);
            Due.is("told(-1, " + what + ")", x.told(-1, what), -2);
        }
    }

    private static FlownOnceAndLaid oneBy(String text, int kind, int number) {
        FlownOnceAndLaid x = Due.by(text);
        x.carpet(kind, number, 14);
        return x;
    }

    private static void east(String text, int kind, int number, int word, int due) {
        FlownOnceAndLaid x = oneBy(text, kind, number);
        Due.is(text + " EAST of " + kind + " at " + word, x.asks(0, 14, word, 0), due);
    }

    private static void south(String text, int kind, int number, int word, int due) {
        FlownOnceAndLaid x = oneBy(text, kind, number);
        Due.is(text + " SOUTH of " + kind + " at " + word, x.asks(0, 14, word, 1), due);
    }

    private static void eastOfKinds() {
        String two = "easts 2; souths 0; rises 0;";
        east(two, RUG, 5, 1, 2);
        east(two, RUNNER, 5, 1, 4);
        east(two, MAT, 5, 1, 0);
        east(two, MAT, 5, 2, 2);
        east(two, MAT, 5, 0, 2);
        east(two, PERSIAN, 3, 1, 4);
        east(two, PERSIAN, 4, 1, 5);
        east(two, DOORMAT, 5, 1, 0);
        east(two, DOORMAT, 5, 2, 2);
        east(two, FELT, 5, 1, -2);
        FlownOnceAndLaid x = oneBy(two, DOORMAT, 5);
        x.set(0, 0, 7);
        Due.is("a doormat's EAST in an odd night", x.asks(0, 14, 2, 0), 0);
        x.set(0, 0, 8);
        Due.is("a doormat's EAST in an even night", x.asks(0, 14, 2, 0), 2);
    }

    private static void southOfKinds() {
        String three = "easts 0; souths 3; rises 0;";
        south(three, RUG, 5, 6, 3);
        south(three, RUNNER, 5, 6, 3);
        south(three, MAT, 5, 6, 4);
        south(three, PERSIAN, 5, 5, 3);
        south(three, PERSIAN, 5, 6, -3);
        south(three, PERSIAN, 5, 7, -3);
        south(three, DOORMAT, 5, 6, 4);
        south(three, FELT, 5, 6, 1);
        south("easts 0; souths -3; rises 0;", FELT, 5, 6, -1);
    }

    private static void boundsAreLaidOnTheTextAndOnceOnTheKind() {
        String wide = "easts 9; souths -9; rises 0;";
        east(wide, RUG, 2, 0, 5);
        east(wide, RUNNER, 2, 0, 5);
        east(wide, PERSIAN, 2, 0, 5);
        east(wide, FELT, 2, 0, -5);
        south(wide, RUG, 2, 0, -5);
        south(wide, MAT, 2, 0, -4);
        south(wide, FELT, 2, 0, -2);
        south(wide, PERSIAN, 2, 6, 5);
        south("easts 0; souths 9; rises 0;", MAT, 2, 0, 5);
        east("easts -3; souths 0; rises 0;", PERSIAN, 2, 0, -4);
        east("easts -3; souths 0; rises 0;", RUNNER, 2, 0, -5);
        // Twice this sum would wrap to 0, were it not bounded ahead of the kind.
        east("easts 4096*4096*64*2; souths 0; rises 0;", RUNNER, 0, 0, -5);
    }

    private static int rises(String text, int kind, int others) {
        FlownOnceAndLaid x = oneBy(text, kind, 5);
        for (int i = 0; i < others; i++) {
            x.carpet(RUG, 0, 14);
        }
        return x.told(0, 6);
    }

    private static void risesOfKinds() {
        int[] due = {6, 8, 4, 16, 0, 6};
        int[] dueFromBelow = {2, 4, 0, 8, 0, 2};
        int[] dueFromAbove = {99, 99, 99, 99, 0, 99};
        for (int kind = 0; kind < 6; kind++) {
            Due.is("RISES of " + kind, rises("easts 0; souths 0; rises 4;", kind, 2), due[kind]);
            Due.is("RISES of " + kind, rises("easts 0; souths 0; rises -4;", kind, 2), dueFromBelow[kind]);
            Due.is("RISES of " + kind, rises("easts 0; souths 0; rises 100;", kind, 2), dueFromAbove[kind]);
        }
        Due.is("a persian's RISES, bounded once", rises("easts 0; souths 0; rises 48;", PERSIAN, 0), 99);
        Due.is("a persian's RISES, not bounded", rises("easts 0; souths 0; rises 47;", PERSIAN, 0), 98);
    }

    private static void nearIsAboveBelowLeftRightAndOwn() {
        FlownOnceAndLaid x = Due.by("easts 0; souths 0; rises 0;");
        x.carpet(RUG, 0, 14);
        x.carpet(RUG, 0, 0);
        int[] near = {14, 8, 20, 13, 15};
        int[] far = {7, 9, 19, 21, 2, 26, 12, 16, 35};
        for (int cell : near) {
            x.set(3, 1, cell);
            Due.is("near on " + cell, x.told(0, 6), 1);
        }
        for (int cell : far) {
            x.set(3, 1, cell);
            Due.is("far on " + cell, x.told(0, 6), 0);
        }
        x.set(3, 0, 5);
        x.set(3, 1, 6);
        Due.is("5 and 6 are not beside one another", x.told(0, 6), 0);
    }

    private static void goalsOfWords() {
        FlownOnceAndLaid x = new FlownOnceAndLaid();
        x.carpet(RUG, 0, 14);
        int[] due = {3, 8, 13, 18, 14, 14, 14, 14};
        for (int word = 0; word < 8; word++) {
            Due.is("told(0, " + (10 + word) + ")", x.told(0, 10 + word), due[word]);
        }
        Due.is("told() moves none", x.told(0, 3), 14);
        x.set(1, 13, 1);
        Due.is("a wall ahead", x.told(0, 12), 14);
        x.set(1, 14, 1);
        Due.is("off a wall", x.told(0, 11), 8);
        FlownOnceAndLaid y = Due.by(Due.FOUR_WINDS);
        y.carpet(RUG, 0, 0);
        int[] corners = {0, 5, 30, 35};
        int[][] goals = {{1, 0, 6, 0}, {5, 4, 11, 5}, {31, 30, 30, 24}, {35, 34, 35, 29}};
        for (int i = 0; i < corners.length; i++) {
            y.set(3, 0, corners[i]);
            for (int word = 0; word < 4; word++) {
                Due.is("from " + corners[i] + " at " + word, y.told(0, 10 + word), goals[i][word]);
            }
        }
    }

    private static void asksRefuses() {
        FlownOnceAndLaid x = new FlownOnceAndLaid();
        x.carpet(RUG, 0, 14);
        Due.is("asks(1, 0, 0, 0)", x.asks(1, 0, 0, 0), NONE_SUCH);
        Due.is("asks(-1, 0, 0, 0)", x.asks(-1, 0, 0, 0), NONE_SUCH);
        Due.is("asks(0, -1, 0, 0)", x.asks(0, -1, 0, 0), NONE_SUCH);
        Due.is("asks(0, 36, 0, 0)", x.asks(0, 36, 0, 0), NONE_SUCH);
        Due.is("asks(0, 0, -1, 0)", x.asks(0, 0, -1, 0), NONE_SUCH);
        Due.is("asks(0, 0, 8, 0)", x.asks(0, 0, 8, 0), NONE_SUCH);
        Due.is("asks(0, 0, 0, -1)", x.asks(0, 0, 0, -1), NONE_SUCH);
        Due.is("asks(0, 0, 0, 2)", x.asks(0, 0, 0, 2), NONE_SUCH);
        Due.is("asks(0, 0, 0, 0)", x.asks(0, 0, 0, 0), 1);
        Due.is("asks(0, 0, 0, 1)", x.asks(0, 0, 0, 1), -2);
        FlownOnceAndLaid y = Due.by("easts column - 2; souths row - 2; rises 0;");
        y.carpet(RUG, 0, 0);
        Due.is("of the cell that is asked, not its own", y.asks(0, 29, 0, 0), 3);
        Due.is("of the cell that is asked, not its own", y.asks(0, 29, 0, 1), 2);
    }
}
