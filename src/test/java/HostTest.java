/** Promises 24 to 28: sheets, carpets that come by one, carpets taken for one of a kind. */
public final class HostTest {
    public static void main(String[] args) throws IllegalAccessException {
        Each.of(HostTest.class);
    }

    /** What a sheet of words holds is seen by where a carpet goes: each word up to 5 leads to a cell of its own. */
    private static FlownOnceAndLaid reader() {
        return Due.oneBy("easts word; souths 0; rises 0;", 0, 0, 0);
    }

    private static void row(FlownOnceAndLaid x, int sheet, int sort, int... due) {
        x.sheet(3, sort, 1);
        for (int i = 0; i < due.length; i++) {
            Due.is("item " + i + " can be read", x.copy(sheet, i, 3, 0, 1), 1);
            Due.is("item " + i + " of sheet " + sheet, x.flies(3, 0, 0), due[i]);
        }
        Due.is("no item more", x.copy(sheet, due.length, 3, 0, 1), Due.OUTSIDE);
    }

    // ---- promise 24

    private static void aSheetBecomesARowOfNoughts() {
        for (int sort = 0; sort < 3; sort++) {
            FlownOnceAndLaid x = reader();
            Due.fill(x, 0, sort, 1, 2, 3, 4);
            Due.is("anew", x.sheet(0, sort, 3), 1);
            row(x, 0, sort, 0, 0, 0);
            Due.is("longer", x.sheet(0, sort, 5), 1);
            row(x, 0, sort, 0, 0, 0, 0, 0);
        }
    }

    private static void aSheetMayHave40Numbers() {
        for (int sort = 0; sort < 3; sort++) {
            FlownOnceAndLaid x = new FlownOnceAndLaid();
            Due.is("40", x.sheet(0, sort, 40), 1);
            Due.is("its last", x.cell(0, 39, 7), 1);
            Due.is("behind it", x.cell(0, 40, 7), Due.OUTSIDE);
            Due.is("41", x.sheet(0, sort, 41), Due.BAD);
            Due.is("the 40 are still there", x.cell(0, 39, 7), 1);
        }
    }

    private static void aSheetMayBeEmpty() {
        for (int sort = 0; sort < 3; sort++) {
            FlownOnceAndLaid x = new FlownOnceAndLaid();
            Due.is("0", x.sheet(1, sort, 0), 1);
            Due.is("no item", x.cell(1, 0, 0), Due.OUTSIDE);
            Due.is("not missing, of its sort", x.carpets(1, sort, 0, 0), 0);
        }
    }

    private static void aSheetMayGoMissing() {
        int[] sizes = {0, 3, -5, 41, Due.MIN, Due.MAX};
        for (int n : sizes) {
            FlownOnceAndLaid x = new FlownOnceAndLaid();
            x.sheet(2, 1, 3);
            Due.is("sheet(2, -1, " + n + ")", x.sheet(2, -1, n), 1);
            Due.is("missing", x.cell(2, 0, 0), Due.MISSING);
            Due.is("missing again", x.sheet(2, -1, n), 1);
        }
    }

    private static void aSheetMayChangeItsSort() {
        FlownOnceAndLaid x = new FlownOnceAndLaid();
        for (int sort = 0; sort < 3; sort++) {
            Due.is("sheet", x.sheet(0, sort, 3), 1);
            for (int other = 0; other < 3; other++) {
                Due.is("of sort " + other, x.carpets(0, other, 0, 0), other == sort ? 0 : Due.OTHER_SORT);
            }
        }
    }

    private static void fourSheetsAreApart() {
        FlownOnceAndLaid x = reader();
        for (int sheet = 0; sheet < 3; sheet++) {
            Due.fill(x, sheet, 2, sheet + 1, sheet + 2);
        }
        for (int sheet = 0; sheet < 3; sheet++) {
            row(x, sheet, 2, sheet + 1, sheet + 2);
        }
        x.sheet(1, -1, 0);
        row(x, 0, 2, 1, 2);
        row(x, 2, 2, 3, 4);
    }

    // ---- promise 25

    private static void itemsBecome() {
        for (int sort = 0; sort < 3; sort++) {
            FlownOnceAndLaid x = reader();
            x.sheet(0, sort, 3);
            Due.is("the last", x.cell(0, 2, 5), 1);
            row(x, 0, sort, 0, 0, 5);
            Due.is("the first", x.cell(0, 0, 4), 1);
            row(x, 0, sort, 4, 0, 5);
            Due.is("anew", x.cell(0, 2, 1), 1);
            row(x, 0, sort, 4, 0, 1);
        }
    }

    /** A carpet of NUMBER v would come just if the item is one of 0 to 9. */
    private static void kept(int sort, int v, int due) {
        FlownOnceAndLaid x = new FlownOnceAndLaid();
        Due.fill(x, 0, sort, 0, v, 0);
        boolean comes = due >= 0 && due <= 9;
        Due.is("sort " + sort + ", " + v, x.carpets(0, sort, 0, 1), comes ? 1 : 0);
        Due.is("its number", x.told(0, 2), comes ? due : Due.BAD);
    }

    private static void bytesKeepTheirLowest8Bits() {
        int[] high = {0, 256, 512, 65536, 1 << 24, Due.MIN, -256, 127 << 8};
        for (int more : high) {
            for (int low = 0; low < 10; low++) {
                kept(0, more + low, low);
            }
            kept(0, more + 10, 10);
            kept(0, more + 128, -128);
            kept(0, more + 255, -1);
        }
    }

    private static void shortsKeepTheirLowest16Bits() {
        int[] high = {0, 65536, 1 << 24, Due.MIN, -65536};
        for (int more : high) {
            for (int low = 0; low < 10; low++) {
                kept(1, more + low, low);
            }
            kept(1, more + 256, 256);
            kept(1, more + 512 + 9, 521);
            kept(1, more + 32768, -32768);
            kept(1, more + 65535, -1);
        }
    }

    private static void intsKeepAll() {
        int[] high = {256, 65536, 1 << 24, Due.MIN, -256, -65536};
        for (int low = 0; low < 10; low++) {
            kept(2, low, low);
            for (int more : high) {
                kept(2, more + low, more + low);
            }
        }
    }

    // ---- promise 26

    private static void copiesToAnother() {
        for (int sort = 0; sort < 3; sort++) {
            FlownOnceAndLaid x = reader();
            Due.fill(x, 0, sort, 1, 2, 3, 4, 5);
            Due.fill(x, 1, sort, 5, 5, 5, 5);
            Due.is("copy(0, 1, 1, 2, 2)", x.copy(0, 1, 1, 2, 2), 2);
            row(x, 1, sort, 5, 5, 2, 3);
            row(x, 0, sort, 1, 2, 3, 4, 5);
        }
    }

    private static void copiesAllOfIt() {
        FlownOnceAndLaid x = reader();
        Due.fill(x, 0, 0, 1, 2, 3);
        x.sheet(1, 0, 3);
        Due.is("copy(0, 0, 1, 0, 3)", x.copy(0, 0, 1, 0, 3), 3);
        row(x, 1, 0, 1, 2, 3);
    }

    private static void copiesOf40() {
        FlownOnceAndLaid x = reader();
        x.sheet(0, 1, 40);
        x.cell(0, 39, 5);
        x.sheet(1, 1, 40);
        Due.is("copy(0, 0, 1, 0, 40)", x.copy(0, 0, 1, 0, 40), 40);
        x.sheet(3, 1, 1);
        x.copy(1, 39, 3, 0, 1);
        Due.is("the last", x.flies(3, 0, 0), 5);
    }

    private static void copiesOfNone() {
        FlownOnceAndLaid x = reader();
        Due.fill(x, 0, 0, 1, 2);
        Due.fill(x, 1, 0, 3, 4, 5);
        Due.is("copy(0, 0, 1, 0, 0)", x.copy(0, 0, 1, 0, 0), 0);
        Due.is("from its end to the end", x.copy(0, 2, 1, 3, 0), 0);
        Due.is("from beyond its end", x.copy(0, 3, 1, 3, 0), Due.OUTSIDE);
        Due.is("to beyond the end", x.copy(0, 2, 1, 4, 0), Due.OUTSIDE);
        row(x, 1, 0, 3, 4, 5);
        x.sheet(0, 0, 0);
        x.sheet(1, 0, 0);
        Due.is("of empty ones", x.copy(0, 0, 1, 0, 0), 0);
        Due.is("of empty ones", x.copy(0, 0, 1, 0, 1), Due.OUTSIDE);
    }

    private static void copiesWithinOneSheetToTheEnd() {
        FlownOnceAndLaid x = reader();
        Due.fill(x, 0, 2, 1, 2, 3, 4, 5);
        Due.is("copy(0, 0, 0, 1, 4)", x.copy(0, 0, 0, 1, 4), 4);
        row(x, 0, 2, 1, 1, 2, 3, 4);
    }

    private static void copiesWithinOneSheetToTheBeginning() {
        FlownOnceAndLaid x = reader();
        Due.fill(x, 0, 2, 1, 2, 3, 4, 5);
        Due.is("copy(0, 1, 0, 0, 4)", x.copy(0, 1, 0, 0, 4), 4);
        row(x, 0, 2, 2, 3, 4, 5, 5);
    }

    private static void copiesOntoItself() {
        FlownOnceAndLaid x = reader();
        Due.fill(x, 0, 2, 1, 2, 3);
        Due.is("copy(0, 0, 0, 0, 3)", x.copy(0, 0, 0, 0, 3), 3);
        row(x, 0, 2, 1, 2, 3);
    }

    // ---- promise 27

    private static void lies(FlownOnceAndLaid x, int carpet, int kind, int number, int on) {
        Due.is("kind of " + carpet, x.told(carpet, 5), kind);
        Due.is("number of " + carpet, x.told(carpet, 2), number);
        Due.is("cell of " + carpet, x.told(carpet, 3), on);
        Due.is("flown of " + carpet, x.told(carpet, 4), 0);
    }

    private static void carpetsComeThreeByThree() {
        for (int sort = 0; sort < 3; sort++) {
            FlownOnceAndLaid x = new FlownOnceAndLaid();
            Due.fill(x, 2, sort, 99, 1, 2, 3, 5, 9, 35, 0, 0, 0);
            Due.is("two of them, from 1 on", x.carpets(2, sort, 1, 2), 2);
            Due.is("count(0)", x.count(0), 2);
            lies(x, 0, 1, 2, 3);
            lies(x, 1, 5, 9, 35);
        }
    }

    private static void fourMayCome() {
        FlownOnceAndLaid x = new FlownOnceAndLaid();
        Due.fill(x, 0, 0, 0, 1, 2, 1, 2, 3, 2, 3, 4, 3, 4, 5);
        Due.is("four", x.carpets(0, 0, 0, 4), 4);
        for (int i = 0; i < 4; i++) {
            lies(x, i, i, i + 1, i + 2);
        }
    }

    private static void noneMayCome() {
        FlownOnceAndLaid x = new FlownOnceAndLaid();
        x.sheet(0, 0, 3);
        Due.is("none", x.carpets(0, 0, 0, 0), 0);
        Due.is("count(0)", x.count(0), 0);
    }

    private static void theLastThreeItemsMayBeOne() {
        FlownOnceAndLaid x = new FlownOnceAndLaid();
        x.sheet(0, 2, 40);
        x.cell(0, 37, 5);
        x.cell(0, 38, 9);
        x.cell(0, 39, 35);
        Due.is("from 37 on", x.carpets(0, 2, 37, 1), 1);
        lies(x, 0, 5, 9, 35);
        Due.is("from 38 on", x.carpets(0, 2, 38, 1), Due.OUTSIDE);
    }

    private static void oneThatIsBadIsLeftOut() {
        int[][] bad = {{6, 0, 0}, {-1, 0, 0}, {0, 10, 0}, {0, -1, 0}, {0, 0, 36}, {0, 0, -1}};
        for (int[] of : bad) {
            FlownOnceAndLaid x = new FlownOnceAndLaid();
            Due.fill(x, 0, 2, 1, 2, 3, of[0], of[1], of[2], 2, 3, 4);
            Due.is("two of three", x.carpets(0, 2, 0, 3), 2);
            lies(x, 0, 1, 2, 3);
            lies(x, 1, 2, 3, 4);
        }
    }

    private static void oneThatHasNoRoomIsLeftOut() {
        FlownOnceAndLaid x = new FlownOnceAndLaid();
        x.carpet(5, 5, 5);
        x.carpet(4, 4, 4);
        Due.fill(x, 0, 2, 0, 1, 2, 1, 2, 3, 2, 3, 4, 3, 4, 5);
        Due.is("two of four", x.carpets(0, 2, 0, 4), 2);
        Due.is("count(0)", x.count(0), 4);
        lies(x, 2, 0, 1, 2);
        lies(x, 3, 1, 2, 3);
        Due.is("none of four", x.carpets(0, 2, 0, 4), 0);
    }

    private static void whatStoodAheadOfAPlaceOutsideCame() {
        for (int size = 0; size <= 11; size++) {
            FlownOnceAndLaid x = new FlownOnceAndLaid();
            x.sheet(0, 1, size);
            Due.is("four of " + size + " items", x.carpets(0, 1, 0, 4), Due.OUTSIDE);
            Due.is("what stood ahead", x.count(0), size / 3);
        }
    }

    private static void whatStoodAheadCameAlsoWithNoRoomForMore() {
        FlownOnceAndLaid x = new FlownOnceAndLaid();
        for (int i = 0; i < 3; i++) {
            x.carpet(0, 0, 0);
        }
        Due.fill(x, 0, 1, 3, 4, 5, 1, 1, 1);
        Due.is("a place outside is told, though nothing has room there", x.carpets(0, 1, 0, 3), Due.OUTSIDE);
        lies(x, 3, 3, 4, 5);
    }

    private static void fromOutsideNoneComes() {
        int[] outside = {-1, -3, Due.MIN, 6, 7, 8, 99, Due.MAX, Due.MAX - 2, Due.MAX - 3};
        for (int from : outside) {
            FlownOnceAndLaid x = new FlownOnceAndLaid();
            x.sheet(0, 1, 8);
            Due.is("one from " + from, x.carpets(0, 1, from, 1), Due.OUTSIDE);
            Due.is("four from " + from, x.carpets(0, 1, from, 4), Due.OUTSIDE);
            Due.is("none came", x.count(0), 0);
        }
    }

    // ---- promise 28

    private static void takenForItsKindAndThoseAbove() {
        String[] over = {"0", "01", "02", "013", "024", "05"};
        for (int kind = 0; kind < 6; kind++) {
            FlownOnceAndLaid x = new FlownOnceAndLaid();
            x.carpet(0, 0, 0);
            x.carpet(kind, 3 + kind, 0);
            for (int k = 0; k < 6; k++) {
                int due = over[kind].indexOf('0' + k) >= 0 ? 3 + kind : Due.OTHER_SORT;
                Due.is("one of kind " + kind + ": taken(1, " + k + ")", x.taken(1, k), due);
            }
        }
    }

    private static void itsNumberIsAsItIsNow() {
        FlownOnceAndLaid x = new FlownOnceAndLaid();
        x.carpet(3, 9, 0);
        Due.is("9", x.taken(0, 1), 9);
        x.set(2, 0, 0);
        Due.is("0", x.taken(0, 1), 0);
    }

    private static void oneThatWentIsNotThere() {
        FlownOnceAndLaid x = new FlownOnceAndLaid();
        x.image();
        x.carpet(0, 5, 0);
        Due.is("there", x.taken(0, 0), 5);
        x.back();
        Due.is("gone", x.taken(0, 0), Due.MISSING);
    }
}
