/** Promises 1 to 5: the floor, its carpets, how far they go and how high they rise. */
public final class FloorTest {
    private static final int RUG = 0, RUNNER = 1, MAT = 2, PERSIAN = 3, DOORMAT = 4, FELT = 5;

    public static void main(String[] args) throws IllegalAccessException {
        Each.of(FloorTest.class);
    }

    // ---- promise 1

    private static void theConstants() {
        Due.is("NONE", FlownOnceAndLaid.NONE, -1);
        Due.is("BAD", FlownOnceAndLaid.BAD, -2);
        Due.is("STATE", FlownOnceAndLaid.STATE, -3);
        Due.is("FULL", FlownOnceAndLaid.FULL, -4);
        Due.is("NO", FlownOnceAndLaid.NO, -4611686018427387904L);
    }

    private static void aNewObjectHasNoCarpetsAndNoWalls() {
        FlownOnceAndLaid x = new FlownOnceAndLaid();
        int[] counts = {0, 0, 0, 1, 0, 0};
        for (int what = 0; what < counts.length; what++) {
            Due.is("count(" + what + ")", x.count(what), counts[what]);
        }
        for (int cell = 0; cell < 36; cell++) {
            Due.is("told(" + cell + ", 1)", x.told(cell, 1), 0);
        }
        for (int carpet = 0; carpet < 4; carpet++) {
            Due.is("told(" + carpet + ", 3)", x.told(carpet, 3), Due.BAD);
        }
    }

    private static void aNewObjectsNightIs0() {
        Due.is("told(0, 0)", new FlownOnceAndLaid().told(0, 0), 0);
    }

    private static void aNewObjectsSheetsAreMissing() {
        FlownOnceAndLaid x = new FlownOnceAndLaid();
        for (int sheet = 0; sheet < 4; sheet++) {
            Due.is("cell(" + sheet + ", 0, 0)", x.cell(sheet, 0, 0), Due.MISSING);
        }
    }

    private static void objectsShareNothing() {
        FlownOnceAndLaid x = new FlownOnceAndLaid();
        FlownOnceAndLaid y = new FlownOnceAndLaid();
        x.carpet(0, 0, 0);
        x.set(1, 1, 1);
        x.set(0, 0, 5);
        Due.text(x, Due.FOUR_WINDS);
        x.feed(65);
        x.sheet(0, 0, 1);
        x.image();
        int[] counts = {0, 0, 0, 1, 0, 0};
        for (int what = 0; what < counts.length; what++) {
            Due.is("count(" + what + ") of the other", y.count(what), counts[what]);
        }
        Due.is("the other's night", y.told(0, 0), 0);
        Due.is("the other's sheet", y.cell(0, 0, 0), Due.MISSING);
        Due.is("the other's image", y.back(), Due.STATE);
    }

    // ---- promises 2 and 4

    private static void setAnswersWhatTheNightWas() {
        FlownOnceAndLaid x = new FlownOnceAndLaid();
        Due.is("set(0, 0, 999)", x.set(0, 0, 999), 0);
        Due.is("told(0, 0)", x.told(0, 0), 999);
        Due.is("set(0, 0, 3)", x.set(0, 0, 3), 999);
        Due.is("set(0, 0, 0)", x.set(0, 0, 0), 3);
        Due.is("told(0, 0)", x.told(0, 0), 0);
    }

    private static void ofDoesNotMatterToTheNight() {
        FlownOnceAndLaid x = new FlownOnceAndLaid();
        int[] others = {-1, 4, 36, Due.MIN, Due.MAX};
        int was = 0;
        for (int of : others) {
            Due.is("set(0, " + of + ", v)", x.set(0, of, was + 1), was);
            was++;
            Due.is("told(" + of + ", 0)", x.told(of, 0), was);
        }
    }

    private static void setAnswersWhetherThereWasAWall() {
        for (int cell = 0; cell < 36; cell++) {
            FlownOnceAndLaid x = new FlownOnceAndLaid();
            Due.is("a wall comes on " + cell, x.set(1, cell, 1), 0);
            Due.is("it is there", x.set(1, cell, 1), 1);
            Due.is("one wall", x.count(1), 1);
            for (int other = 0; other < 36; other++) {
                Due.is("told(" + other + ", 1)", x.told(other, 1), other == cell ? 1 : 0);
            }
            Due.is("it goes", x.set(1, cell, 0), 1);
            Due.is("it is gone", x.set(1, cell, 0), 0);
            Due.is("no wall", x.count(1), 0);
        }
    }

    private static void allCellsMayBeWalls() {
        FlownOnceAndLaid x = new FlownOnceAndLaid();
        for (int cell = 0; cell < 36; cell++) {
            x.set(1, cell, 1);
        }
        Due.is("count(1)", x.count(1), 36);
        x.carpet(RUG, 0, 14);
        for (int word = 0; word < 8; word++) {
            Due.is("walled in at " + word, x.told(0, 10 + word), 14);
        }
    }

    private static void setAnswersWhatTheNumberWas() {
        FlownOnceAndLaid x = new FlownOnceAndLaid();
        x.carpet(RUNNER, 2, 3);
        Due.is("set(2, 0, 9)", x.set(2, 0, 9), 2);
        Due.is("set(2, 0, 0)", x.set(2, 0, 0), 9);
        Due.is("told(0, 2)", x.told(0, 2), 0);
    }

    private static void setAnswersWhatTheCellWas() {
        FlownOnceAndLaid x = new FlownOnceAndLaid();
        x.carpet(RUNNER, 2, 3);
        Due.is("set(3, 0, 35)", x.set(3, 0, 35), 3);
        Due.is("set(3, 0, 0)", x.set(3, 0, 0), 35);
        Due.is("told(0, 3)", x.told(0, 3), 0);
    }

    private static void toBeLaidIsNotToFly() {
        FlownOnceAndLaid x = new FlownOnceAndLaid();
        x.carpet(RUNNER, 2, 3);
        x.set(3, 0, 1);
        Due.is("told(0, 4)", x.told(0, 4), 0);
        Due.is("count(2)", x.count(2), 0);
    }

    private static void setChangesOneOfItsNumbersAlone() {
        for (int what = 2; what <= 4; what++) {
            FlownOnceAndLaid x = new FlownOnceAndLaid();
            x.carpet(PERSIAN, 2, 3);
            x.set(what, 0, 1);
            int[] due = {0, 0, 2, 3, 0, PERSIAN};
            due[what] = 1;
            for (int of = 2; of <= 5; of++) {
                Due.is("behind set(" + what + ", 0, 1): told(0, " + of + ")", x.told(0, of), due[of]);
            }
            Due.is("the night", x.told(0, 0), 0);
            Due.is("no walls", x.count(1), 0);
        }
    }

    private static void setAnswersWhetherItHadFlown() {
        FlownOnceAndLaid x = new FlownOnceAndLaid();
        x.carpet(RUNNER, 2, 3);
        Due.is("set(4, 0, 1)", x.set(4, 0, 1), 0);
        Due.is("told(0, 4)", x.told(0, 4), 1);
        Due.is("count(2)", x.count(2), 1);
        Due.is("set(4, 0, 0)", x.set(4, 0, 0), 1);
        Due.is("told(0, 4)", x.told(0, 4), 0);
        Due.is("count(2)", x.count(2), 0);
    }

    private static void setChangesOneCarpetAlone() {
        FlownOnceAndLaid x = new FlownOnceAndLaid();
        for (int i = 0; i < 4; i++) {
            x.carpet(i, i, i);
        }
        x.set(2, 3, 9);
        x.set(3, 3, 30);
        x.set(4, 3, 1);
        for (int i = 0; i < 3; i++) {
            Due.is("number of " + i, x.told(i, 2), i);
            Due.is("cell of " + i, x.told(i, 3), i);
            Due.is("flown of " + i, x.told(i, 4), 0);
        }
        int[] last = {0, 0, 9, 30, 1, 3};
        for (int what = 2; what <= 5; what++) {
            Due.is("told(3, " + what + ")", x.told(3, what), last[what]);
        }
    }

    private static void aCarpetMayLieOnAWall() {
        FlownOnceAndLaid x = new FlownOnceAndLaid();
        x.set(1, 35, 1);
        Due.is("one comes on a wall", x.carpet(RUG, 0, 35), 0);
        Due.is("it lies there", x.told(0, 3), 35);
        Due.is("another", x.carpet(RUG, 0, 1), 1);
        Due.is("one is laid on a wall", x.set(3, 1, 35), 1);
        Due.is("a wall comes under one", x.set(1, 0, 1), 0);
        x.set(3, 1, 0);
        x.set(1, 0, 0);
        Due.is("a wall goes from under one", x.told(1, 3), 0);
    }

    private static void severalMayLieOnOneCell() {
        FlownOnceAndLaid x = new FlownOnceAndLaid();
        for (int i = 0; i < 4; i++) {
            Due.is("carpet(5, 9, 35) as " + i, x.carpet(FELT, 9, 35), i);
        }
        for (int i = 0; i < 4; i++) {
            Due.is("told(" + i + ", 3)", x.told(i, 3), 35);
        }
    }

    // ---- promise 3

    private static void carpetsAreNumberedFrom0And4AtMost() {
        FlownOnceAndLaid x = new FlownOnceAndLaid();
        for (int i = 0; i < 4; i++) {
            Due.is("carpet as " + i, x.carpet(i, i + 1, i + 2), i);
            Due.is("count(0)", x.count(0), i + 1);
        }
        Due.is("no room", x.carpet(0, 0, 0), Due.FULL);
        Due.is("count(0)", x.count(0), 4);
        for (int i = 0; i < 4; i++) {
            Due.is("kind of " + i, x.told(i, 5), i);
            Due.is("number of " + i, x.told(i, 2), i + 1);
            Due.is("cell of " + i, x.told(i, 3), i + 2);
        }
    }

    private static void everyKindNumberAndCell() {
        for (int v = 0; v < 36; v++) {
            FlownOnceAndLaid x = new FlownOnceAndLaid();
            Due.is("carpet", x.carpet(v % 6, v % 10, v), 0);
            Due.is("kind", x.told(0, 5), v % 6);
            Due.is("number", x.told(0, 2), v % 10);
            Due.is("cell", x.told(0, 3), v);
        }
    }

    private static void flownIs0AsOneComes() {
        FlownOnceAndLaid x = new FlownOnceAndLaid();
        x.image();
        x.carpet(RUG, 0, 14);
        Due.is("as one comes", x.told(0, 4), 0);
        x.set(4, 0, 1);
        x.back();
        x.carpet(RUG, 0, 14);
        Due.is("as one comes in the place of one that had flown", x.told(0, 4), 0);
    }

    private static void thereIsRoomBehindBack() {
        FlownOnceAndLaid x = new FlownOnceAndLaid();
        x.carpet(RUG, 0, 0);
        x.image();
        for (int i = 1; i < 4; i++) {
            x.carpet(RUG, 0, 0);
        }
        Due.is("no room", x.carpet(RUG, 0, 0), Due.FULL);
        x.back();
        Due.is("room again", x.carpet(FELT, 3, 7), 1);
        Due.is("its kind", x.told(1, 5), FELT);
    }

    // ---- promises 4 and 5: EAST

    private static int eastOf(String e, int kind, int number, int word) {
        return Due.oneBy("easts " + e + "; souths 0; rises 0;", kind, number, 14).asks(0, 14, word, 0);
    }

    private static int southOf(String e, int kind, int number, int word) {
        return Due.oneBy("easts 0; souths " + e + "; rises 0;", kind, number, 14).asks(0, 14, word, 1);
    }

    private static void east(String e, int kind, int number, int word, int due) {
        Due.is("EAST of kind " + kind + ", number " + number + ", at " + word + ", by " + e,
                eastOf(e, kind, number, word), due);
    }

    private static void south(String e, int kind, int number, int word, int due) {
        Due.is("SOUTH of kind " + kind + ", number " + number + ", at " + word + ", by " + e,
                southOf(e, kind, number, word), due);
    }

    private static void eastOfARugIsTheTexts() {
        for (int word = 0; word < 8; word++) {
            east("3", RUG, 5, word, 3);
            east("-3", RUG, 5, word, -3);
        }
    }

    private static void eastOfARunnerIsTwiceARugs() {
        for (int word = 0; word < 8; word++) {
            east("2", RUNNER, 5, word, 4);
            east("-2", RUNNER, 5, word, -4);
        }
    }

    private static void eastOfAMatIs0AtOddWords() {
        for (int word = 0; word < 8; word++) {
            east("2", MAT, 5, word, word % 2 == 1 ? 0 : 2);
        }
    }

    private static void eastOfAPersianIsMoreByItsNumberModulo3() {
        for (int number = 0; number < 10; number++) {
            east("1", PERSIAN, number, 1, 2 + number % 3);
            east("-1", PERSIAN, number, 6, -2 + number % 3);
        }
    }

    private static void eastOfADoormatIs0AtOddWordsAndInOddNights() {
        FlownOnceAndLaid x = Due.oneBy("easts 2; souths 0; rises 0;", DOORMAT, 5, 14);
        int[] nights = {0, 1, 2, 7, 8, 998, 999};
        for (int night : nights) {
            x.set(0, 0, night);
            for (int word = 0; word < 8; word++) {
                int due = word % 2 == 1 || night % 2 == 1 ? 0 : 2;
                Due.is("night " + night + ", word " + word, x.asks(0, 14, word, 0), due);
            }
        }
    }

    private static void oddNightsMatterToDoormatsAlone() {
        for (int kind = 0; kind < 6; kind++) {
            FlownOnceAndLaid x = Due.oneBy("easts 2; souths 0; rises 0;", kind, 5, 14);
            int even = x.asks(0, 14, 2, 0);
            x.set(0, 0, 999);
            Due.is("kind " + kind + " in an odd night", x.asks(0, 14, 2, 0), kind == DOORMAT ? 0 : even);
        }
    }

    private static void eastOfAFeltIs0LessTheTexts() {
        for (int v = -5; v <= 5; v++) {
            east("0 - " + -v, FELT, 5, 3, -v);
        }
    }

    private static void eastIsMinus5To5ElseTheBound() {
        east("5", RUG, 0, 0, 5);
        east("6", RUG, 0, 0, 5);
        east("-5", RUG, 0, 0, -5);
        east("-6", RUG, 0, 0, -5);
        east("9999", RUG, 0, 0, 5);
        east("4096*4096*128-1", RUG, 0, 0, 5);
        east("4096*4096*128", RUG, 0, 0, -5);
    }

    private static void theTextsEastsAreBoundedAheadOfTheKind() {
        // Twice the least int wraps to 0, and 0 less it is itself.
        east("4096*4096*128", RUNNER, 0, 0, -5);
        east("4096*4096*128", PERSIAN, 0, 0, -5);
        east("4096*4096*128", FELT, 0, 0, 5);
        east("6", FELT, 0, 0, -5);
        east("-6", FELT, 0, 0, 5);
    }

    private static void theKindsEastIsBoundedOnceOnWhatComesOut() {
        east("3", RUNNER, 0, 0, 5);
        east("-3", RUNNER, 0, 0, -5);
        // A runner's would be -5, were a bound laid on it too, and this -3.
        east("-3", PERSIAN, 2, 0, -4);
        east("-3", PERSIAN, 1, 0, -5);
        east("-4", PERSIAN, 2, 0, -5);
        east("2", PERSIAN, 1, 0, 5);
        east("2", PERSIAN, 2, 0, 5);
        east("3", PERSIAN, 0, 0, 5);
    }

    // ---- promises 4 and 5: SOUTH

    private static void southOfARugIsTheTexts() {
        for (int word = 0; word < 8; word++) {
            south("3", RUG, 5, word, 3);
            south("-3", RUG, 5, word, -3);
        }
    }

    private static void southOfARunnerIsARugs() {
        for (int word = 0; word < 8; word++) {
            south("3", RUNNER, 5, word, 3);
        }
    }

    private static void southOfAMatOrDoormatIs1More() {
        for (int word = 0; word < 8; word++) {
            south("3", MAT, 5, word, 4);
            south("-1", MAT, 5, word, 0);
            south("3", DOORMAT, 5, word, 4);
        }
        FlownOnceAndLaid x = Due.oneBy("easts 0; souths 3; rises 0;", DOORMAT, 5, 14);
        x.set(0, 0, 1);
        Due.is("an odd night does not matter to the SOUTH", x.asks(0, 14, 1, 1), 4);
    }

    private static void southOfAPersianIsTurnedAboveWord5() {
        for (int word = 0; word < 8; word++) {
            south("3", PERSIAN, 5, word, word > 5 ? -3 : 3);
        }
    }

    private static void southOfAFeltIsHalfCutToward0() {
        int[] due = {-2, -2, -1, -1, 0, 0, 0, 1, 1, 2, 2};
        for (int v = -5; v <= 5; v++) {
            south("0 - " + -v, FELT, 5, 3, due[v + 5]);
        }
    }

    private static void southIsMinus5To5ElseTheBound() {
        south("5", RUG, 0, 0, 5);
        south("6", RUG, 0, 0, 5);
        south("-5", RUG, 0, 0, -5);
        south("-6", RUG, 0, 0, -5);
        south("4096*4096*128-1", RUG, 0, 0, 5);
        south("4096*4096*128", RUG, 0, 0, -5);
    }

    private static void theTextsSouthsAreBoundedAheadOfTheKind() {
        south("-9", MAT, 0, 0, -4);
        south("-9", DOORMAT, 0, 0, -4);
        south("9", FELT, 0, 0, 2);
        south("-9", FELT, 0, 0, -2);
        south("4096*4096*128", PERSIAN, 0, 6, 5);
        south("4096*4096*128-1", MAT, 0, 0, 5);
    }

    private static void theKindsSouthIsBoundedOnWhatComesOut() {
        south("4", MAT, 0, 0, 5);
        south("5", MAT, 0, 0, 5);
        south("5", DOORMAT, 0, 0, 5);
    }

    // ---- promise 4: RISES

    /** RISES of carpet 0 with so many others on its own cell. */
    private static void rises(String e, int kind, int others, int due) {
        FlownOnceAndLaid x = Due.oneBy("easts 0; souths 0; rises " + e + ";", kind, 5, 14);
        for (int i = 0; i < others; i++) {
            x.carpet(RUG, 0, 14);
        }
        Due.is("RISES of kind " + kind + " with " + others + " near, by " + e, x.told(0, 6), due);
    }

    private static void risesOfKinds() {
        for (int others = 0; others < 4; others++) {
            rises("4", RUG, others, 4 + others);
            rises("4", RUNNER, others, 6 + others);
            rises("4", MAT, others, 4);
            rises("4", PERSIAN, others, 12 + 2 * others);
            rises("4", DOORMAT, others, 0);
            rises("4", FELT, others, 4 + others);
        }
    }

    private static void risesAre0To99ElseTheBound() {
        rises("99", RUG, 0, 99);
        rises("100", RUG, 0, 99);
        rises("0", RUG, 0, 0);
        rises("-1", RUG, 0, 0);
        rises("98", RUG, 1, 99);
        rises("98", RUG, 2, 99);
        rises("97", RUNNER, 0, 99);
        rises("98", RUNNER, 0, 99);
        rises("47", PERSIAN, 0, 98);
        rises("48", PERSIAN, 0, 99);
        rises("99", MAT, 3, 99);
        rises("100", MAT, 0, 99);
        rises("-1", MAT, 0, 0);
    }

    private static void theTextsRisesAreBoundedAheadOfTheKind() {
        rises("-4", RUG, 2, 2);
        rises("-4", RUNNER, 2, 4);
        rises("-4", PERSIAN, 2, 8);
        rises("-4", FELT, 2, 2);
        // What comes of these would wrap to below 0, were they not bounded.
        rises("4096*4096*64", PERSIAN, 0, 99);
        rises("4096*4096*128-1", RUG, 1, 99);
    }

    private static void nearIsAboveBelowLeftRightOrItsOwn() {
        int[] cells = {14, 0, 5, 30, 35, 6, 11, 2, 33};
        for (int own : cells) {
            FlownOnceAndLaid x = Due.oneBy("easts 0; souths 0; rises 0;", RUG, 0, own);
            x.carpet(RUG, 0, 0);
            for (int cell = 0; cell < 36; cell++) {
                int east = Math.abs(cell % 6 - own % 6);
                int south = Math.abs(cell / 6 - own / 6);
                x.set(3, 1, cell);
                Due.is("one on " + cell + " is near to " + own, x.told(0, 6), east + south <= 1 ? 1 : 0);
            }
        }
    }

    private static void anyOtherMayBeNear() {
        for (int own = 0; own < 4; own++) {
            for (int other = 0; other < 4; other++) {
                FlownOnceAndLaid x = Due.by("easts 0; souths 0; rises 0;");
                int[] apart = {0, 5, 30, 35};
                for (int cell : apart) {
                    x.carpet(RUG, 0, cell);
                }
                x.set(3, other, apart[own]);
                Due.is(other + " is near to " + own, x.told(own, 6), other == own ? 0 : 1);
            }
        }
    }

    private static void nearOnesOnWallsCount() {
        FlownOnceAndLaid x = Due.oneBy("easts 0; souths 0; rises 0;", RUG, 0, 14);
        x.set(1, 15, 1);
        x.carpet(RUG, 0, 15);
        Due.is("one on a wall beside", x.told(0, 6), 1);
    }

    // ---- promise 4: the cell it would go to

    private static void wordsOfTheFirstText() {
        FlownOnceAndLaid x = new FlownOnceAndLaid();
        x.carpet(RUG, 0, 14);
        int[] due = {3, 8, 13, 18, 14, 14, 14, 14};
        for (int word = 0; word < 8; word++) {
            Due.is("told(0, " + (10 + word) + ")", x.told(0, 10 + word), due[word]);
            Due.is("easts of TEXT 0 at " + word, x.asks(0, 14, word, 0), Math.max(-5, 1 - word));
            Due.is("souths of TEXT 0 at " + word, x.asks(0, 14, word, 1), word - 2);
        }
        Due.is("rises of TEXT 0", x.told(0, 6), 1);
        Due.is("told() moves none", x.told(0, 3), 14);
    }

    private static void outsideItLiesStill() {
        FlownOnceAndLaid x = Due.rugs(0);
        for (int cell = 0; cell < 36; cell++) {
            x.set(3, 0, cell);
            Due.is("east of " + cell, x.told(0, 10), cell % 6 == 5 ? cell : cell + 1);
            Due.is("west of " + cell, x.told(0, 11), cell % 6 == 0 ? cell : cell - 1);
            Due.is("south of " + cell, x.told(0, 12), cell / 6 == 5 ? cell : cell + 6);
            Due.is("north of " + cell, x.told(0, 13), cell / 6 == 0 ? cell : cell - 6);
        }
    }

    private static void outsideInOneWayItLiesStillInBoth() {
        FlownOnceAndLaid x = Due.oneBy("easts 1-2*(word=1); souths 1-2*(word=2); rises 0;", RUG, 0, 5);
        Due.is("5, out to the east, in to the south", x.told(0, 10), 5);
        x.set(3, 0, 30);
        Due.is("30, out to the south, in to the east", x.told(0, 10), 30);
        Due.is("30, out to the west and south", x.told(0, 11), 30);
        x.set(3, 0, 0);
        Due.is("0, out to the north, in to the east", x.told(0, 12), 0);
        Due.is("0, out to the west, in to the south", x.told(0, 11), 0);
        Due.is("0, in to both", x.told(0, 10), 7);
    }

    private static void fiveCellsAreTheFurthestThatStaysInside() {
        FlownOnceAndLaid x = Due.oneBy("easts 5-10*(word=1); souths 5-10*(word=1); rises 0;", RUG, 0, 0);
        Due.is("from 0", x.told(0, 10), 35);
        x.set(3, 0, 35);
        Due.is("from 35", x.told(0, 11), 0);
        x.set(3, 0, 34);
        Due.is("from 34", x.told(0, 11), 34);
    }

    private static void aWallIsNotGoneTo() {
        FlownOnceAndLaid x = Due.rugs(14);
        x.set(1, 15, 1);
        Due.is("a wall to the east", x.told(0, 10), 14);
        Due.is("none to the west", x.told(0, 11), 13);
        x.set(1, 14, 1);
        Due.is("off a wall", x.told(0, 11), 13);
        x.set(1, 15, 0);
        Due.is("a wall that went", x.told(0, 10), 15);
    }

    private static void wallsBetweenDoNotMatter() {
        FlownOnceAndLaid x = Due.oneBy("easts 3; souths 0; rises 0;", RUG, 0, 0);
        x.set(1, 1, 1);
        x.set(1, 2, 1);
        Due.is("over walls", x.told(0, 10), 3);
    }

    private static void toldIsAsACarpetIsSet() {
        FlownOnceAndLaid x = new FlownOnceAndLaid();
        x.carpet(FELT, 7, 20);
        x.set(4, 0, 1);
        int[] due = {0, 0, 7, 20, 1, 5};
        for (int what = 2; what <= 5; what++) {
            Due.is("told(0, " + what + ")", x.told(0, what), due[what]);
        }
    }

    // ---- promise 5

    private static void asksOfTheCellNotOfItsOwn() {
        FlownOnceAndLaid x = Due.oneBy("easts column - 2; souths row - 2; rises 0;", RUG, 0, 0);
        for (int cell = 0; cell < 36; cell++) {
            Due.is("EAST on " + cell, x.asks(0, cell, 0, 0), cell % 6 - 2);
            Due.is("SOUTH on " + cell, x.asks(0, cell, 0, 1), cell / 6 - 2);
        }
        x.set(1, 35, 1);
        Due.is("also on a wall", x.asks(0, 35, 0, 0), 3);
        Due.is("asks() moves none", x.told(0, 3), 0);
    }

    private static void asksIsNotCutByTheFloorsEdge() {
        FlownOnceAndLaid x = new FlownOnceAndLaid();
        x.carpet(RUG, 0, 14);
        Due.is("EAST on 0 at 7", x.asks(0, 0, 7, 0), -5);
        Due.is("SOUTH on 35 at 7", x.asks(0, 35, 7, 1), 5);
    }
}
