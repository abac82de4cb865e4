/** Promises 24 to 28: sheets, carpets that come by one, carpets taken for one of a kind. */
public final class HostTest {
    public static void main(String[] args) {
        sheetsBecomeRows();
        itemsOfSheets();
        copies();
        carpetsBySheets();
        carpetsThatAreLeftOut();
        carpetsRefuses();
        takenForAKind();
        Due.end();
    }

    private static void sheetsBecomeRows() {
        FlownOnceAndLaid x = new FlownOnceAndLaid();
        Due.is("sheet(-1, 0, 1)", x.sheet(-1, 0, 1), -2);
        Due.is("sheet(4, 0, 1)", x.sheet(4, 0, 1), -2);
        Due.is("sheet(0, 3, 1)", x.sheet(0, 3, 1), -2);
        Due.is("sheet(0, -2, 1)", x.sheet(0, -2, 1), -2);
        Due.is("sheet(0, 0, 41)", x.sheet(0, 0, 41), -2);
        Due.is("sheet(0, 0, -1)", x.sheet(0, 0, -1), -14);
        Due.is("sheet(0, 0, MIN)", x.sheet(0, 0, Integer.MIN_VALUE), -14);
        Due.is("sheet(4, 0, -1)", x.sheet(4, 0, -1), -2);
        Due.is("sheet(0, 3, -1)", x.sheet(0, 3, -1), -2);
        Due.is("still missing", x.cell(0, 0, 0), -11);
        Due.is("sheet(0, 0, 40)", x.sheet(0, 0, 40), 1);
        Due.is("its last", x.cell(0, 39, 7), 1);
        Due.is("a refusal changes nothing", x.sheet(0, 1, -1), -14);
        Due.is("its last", x.cell(0, 39, 7), 1);
        Due.is("sheet(0, -1, -5)", x.sheet(0, -1, -5), 1);
        Due.is("missing", x.cell(0, 0, 0), -11);
        Due.is("sheet(0, -1, 99)", x.sheet(0, -1, 99), 1);
        x.carpet(0, 0, 0);
        Due.fill(x, 1, 2, 5, 5, 9);
        Due.is("9 is no word", x.flies(1, 0, 0), -2);
        x.sheet(1, 2, 3);
        Due.is("all 0", x.flies(1, 0, 0), 0);
    }

    private static void itemsOfSheets() {
        FlownOnceAndLaid x = new FlownOnceAndLaid();
        x.sheet(0, 0, 3);
        Due.is("cell(-1, 0, 0)", x.cell(-1, 0, 0), -2);
        Due.is("cell(4, 0, 0)", x.cell(4, 0, 0), -2);
        Due.is("cell(1, 0, 0)", x.cell(1, 0, 0), -11);
        Due.is("cell(1, 99, 0)", x.cell(1, 99, 0), -11);
        Due.is("cell(0, -1, 0)", x.cell(0, -1, 0), -12);
        Due.is("cell(0, 3, 0)", x.cell(0, 3, 0), -12);
        Due.is("cell(0, MAX, 0)", x.cell(0, Integer.MAX_VALUE, 0), -12);
        Due.is("cell(0, MIN, 0)", x.cell(0, Integer.MIN_VALUE, 0), -12);
        Due.is("cell(0, 2, 0)", x.cell(0, 2, 0), 1);
        int[] wide = {0, 1 << 8, 1 << 16};
        for (int sort = 0; sort < 3; sort++) {
            for (int i = 0; i < 3; i++) {
                FlownOnceAndLaid y = new FlownOnceAndLaid();
                Due.fill(y, 0, sort, 5, 9, 35 + wide[i]);
                boolean comes = sort == 0 || sort == 1 && i != 1 || sort == 2 && i == 0;
                Due.is("sort " + sort + ", 35 and " + wide[i], y.carpets(0, sort, 0, 1), comes ? 1 : 0);
            }
        }
    }

    /** What a sheet of words holds is seen by where a carpet goes: each word leads to a cell of its own. */
    private static int[] words(FlownOnceAndLaid x, int sheet, int n) {
        int[] read = new int[n];
        for (int i = 0; i < n; i++) {
            x.sheet(3, 2, 1);
            x.copy(sheet, i, 3, 0, 1);
            read[i] = x.flies(3, 0, 0);
        }
        return read;
    }

    private static void row(FlownOnceAndLaid x, int sheet, int... due) {
        int[] read = words(x, sheet, due.length);
        for (int i = 0; i < due.length; i++) {
            Due.is("item " + i + " of sheet " + sheet, read[i], due[i]);
        }
    }

    private static void copies() {
        FlownOnceAndLaid x = Due.by("easts word; souths 0; rises 0;");
        x.carpet(0, 0, 0);
        Due.fill(x, 0, 2, 1, 2, 3, 4, 5);
        Due.fill(x, 1, 2, 0, 0, 0);
        Due.is("copy(0, 1, 1, 0, 3)", x.copy(0, 1, 1, 0, 3), 3);
        row(x, 1, 2, 3, 4);
        row(x, 0, 1, 2, 3, 4, 5);
        Due.is("copy(0, 0, 0, 1, 4), as they were", x.copy(0, 0, 0, 1, 4), 4);
        row(x, 0, 1, 1, 2, 3, 4);
        Due.is("copy(0, 1, 0, 0, 4), as they were", x.copy(0, 1, 0, 0, 4), 4);
        row(x, 0, 1, 2, 3, 4, 4);
        Due.is("copy(0, 5, 1, 3, 0)", x.copy(0, 5, 1, 3, 0), 0);
        Due.is("copy(0, 6, 1, 0, 0)", x.copy(0, 6, 1, 0, 0), -12);
        Due.is("copy(0, 0, 1, 4, 0)", x.copy(0, 0, 1, 4, 0), -12);
        Due.is("copy(0, 0, 1, 0, 4)", x.copy(0, 0, 1, 0, 4), -12);
        Due.is("copy(0, 3, 1, 0, 3)", x.copy(0, 3, 1, 0, 3), -12);
        Due.is("copy(0, -1, 1, 0, 1)", x.copy(0, -1, 1, 0, 1), -12);
        Due.is("copy(0, 0, 1, -1, 1)", x.copy(0, 0, 1, -1, 1), -12);
        Due.is("copy(0, 0, 1, 0, -1)", x.copy(0, 0, 1, 0, -1), -12);
        Due.is("copy(0, 1, 1, 0, MAX)", x.copy(0, 1, 1, 0, Integer.MAX_VALUE), -12);
        Due.is("copy(0, MAX, 1, 0, 1)", x.copy(0, Integer.MAX_VALUE, 1, 0, 1), -12);
        row(x, 1, 2, 3, 4);
        x.sheet(2, 1, 3);
        Due.is("copy(0, 0, 2, 0, 1)", x.copy(0, 0, 2, 0, 1), -13);
        Due.is("copy(0, 99, 2, 0, -1)", x.copy(0, 99, 2, 0, -1), -13);
        x.sheet(2, -1, 0);
        Due.is("copy(0, 99, 2, 0, -1)", x.copy(0, 99, 2, 0, -1), -11);
        Due.is("copy(2, 0, 0, 0, 1)", x.copy(2, 0, 0, 0, 1), -11);
        Due.is("copy(2, 0, 4, 0, 1)", x.copy(2, 0, 4, 0, 1), -2);
        Due.is("copy(-1, 0, 2, 0, 1)", x.copy(-1, 0, 2, 0, 1), -2);
    }

    private static void carpetsBySheets() {
        for (int sort = 0; sort < 3; sort++) {
            FlownOnceAndLaid x = new FlownOnceAndLaid();
            Due.fill(x, 2, sort, 99, 1, 2, 3, 5, 9, 35, 0, 0, 0);
            Due.is("two of them", x.carpets(2, sort, 1, 2), 2);
            Due.is("count(0)", x.count(0), 2);
            int[] first = {0, 0, 2, 3, 0, 1};
            int[] second = {0, 0, 9, 35, 0, 5};
            for (int what = 2; what <= 5; what++) {
                Due.is("told(0, " + what + ")", x.told(0, what), first[what]);
                Due.is("told(1, " + what + ")", x.told(1, what), second[what]);
            }
            Due.is("none of them", x.carpets(2, sort, 0, 0), 0);
            Due.is("count(0)", x.count(0), 2);
        }
    }

    private static void carpetsThatAreLeftOut() {
        FlownOnceAndLaid x = new FlownOnceAndLaid();
        Due.fill(x, 0, 2, 6, 0, 0, 0, 10, 0, 0, 0, 36, 2, 3, 4);
        Due.is("three are left out", x.carpets(0, 2, 0, 4), 1);
        Due.is("told(0, 5)", x.told(0, 5), 2);
        Due.fill(x, 0, 2, -1, 0, 0, 0, -1, 0, 0, 0, -1, 2, 3, 4);
        Due.is("three are left out", x.carpets(0, 2, 0, 4), 1);
        x.sheet(0, 2, 12);
        Due.is("two have no room", x.carpets(0, 2, 0, 4), 2);
        Due.is("count(0)", x.count(0), 4);
        Due.is("all have no room", x.carpets(0, 2, 0, 4), 0);
    }

    private static void carpetsRefuses() {
        FlownOnceAndLaid x = new FlownOnceAndLaid();
        x.sheet(0, 1, 8);
        Due.is("carpets(-1, 1, 0, 1)", x.carpets(-1, 1, 0, 1), -2);
        Due.is("carpets(4, 1, 0, 1)", x.carpets(4, 1, 0, 1), -2);
        Due.is("carpets(0, -1, 0, 1)", x.carpets(0, -1, 0, 1), -2);
        Due.is("carpets(0, 3, 0, 1)", x.carpets(0, 3, 0, 1), -2);
        Due.is("carpets(0, 1, 0, -1)", x.carpets(0, 1, 0, -1), -2);
        Due.is("carpets(0, 1, 0, 5)", x.carpets(0, 1, 0, 5), -2);
        Due.is("carpets(1, 1, 0, 5)", x.carpets(1, 1, 0, 5), -2);
        Due.is("carpets(0, 0, 0, 1)", x.carpets(0, 0, 0, 1), -13);
        Due.is("carpets(0, 2, 99, 0)", x.carpets(0, 2, 99, 0), -13);
        Due.is("carpets(1, 2, 99, 1)", x.carpets(1, 2, 99, 1), -11);
        Due.is("carpets(1, 2, 0, 0)", x.carpets(1, 2, 0, 0), -11);
        int[] outside = {-1, -3, 6, 7, 8, 99, Integer.MAX_VALUE, Integer.MAX_VALUE - 2, Integer.MIN_VALUE};
        for (int from : outside) {
            Due.is("carpets(0, 1, " + from + ", 1)", x.carpets(0, 1, from, 1), -12);
            Due.is("carpets(0, 1, " + from + ", 4)", x.carpets(0, 1, from, 4), -12);
        }
        Due.is("none came", x.count(0), 0);
        Due.is("carpets(0, 1, 0, 3)", x.carpets(0, 1, 0, 3), -12);
        Due.is("what stood ahead came", x.count(0), 2);
        Due.is("carpets(0, 1, 5, 1)", x.carpets(0, 1, 5, 1), 1);
    }

    private static void takenForAKind() {
        String[] over = {"0", "01", "02", "013", "024", "05"};
        for (int kind = 0; kind < 6; kind++) {
            FlownOnceAndLaid x = new FlownOnceAndLaid();
            x.carpet(kind, 3 + kind, 0);
            for (int k = 0; k < 6; k++) {
                int due = over[kind].indexOf('0' + k) >= 0 ? 3 + kind : -13;
                Due.is("one of kind " + kind + ": taken(0, " + k + ")", x.taken(0, k), due);
            }
            Due.is("taken(0, 6)", x.taken(0, 6), -2);
            Due.is("taken(0, -1)", x.taken(0, -1), -2);
            Due.is("taken(1, 6)", x.taken(1, 6), -2);
            Due.is("taken(1, 0)", x.taken(1, 0), -11);
            Due.is("taken(-1, 0)", x.taken(-1, 0), -11);
        }
    }
}
