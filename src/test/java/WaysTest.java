/** Promises 11 to 16: the shortest row, all cells there are, the furthest, meetings, rows, the highest. */
public final class WaysTest {
    private static final long NO = FlownOnceAndLaid.NO;
    private static final long ALL = (1L << 36) - 1;

    public static void main(String[] args) {
        shortestRows();
        thoughtsDoNotFly();
        cellsThereAre();
        theFurthest();
        meetings();
        rowsOfWords();
        theHighest();
        refusals();
        Due.end();
    }

    private static FlownOnceAndLaid rugsByFourWinds(int... cells) {
        FlownOnceAndLaid x = Due.by(Due.FOUR_WINDS);
        for (int cell : cells) {
            x.carpet(0, 0, cell);
        }
        return x;
    }

    private static void shortestRows() {
        FlownOnceAndLaid x = rugsByFourWinds(0);
        Due.is("to its own", x.shortest(0, 0, 0), 0);
        Due.is("to its own", x.shortest(0, 0, 1), 0);
        Due.is("to 7", x.shortest(0, 7, 0), 2);
        Due.is("to 7, the first of two rows", x.shortest(0, 7, 1), 13);
        Due.is("to 29", x.shortest(0, 29, 0), 9);
        Due.is("to 29", x.shortest(0, 29, 1), 111113333);
        Due.is("to 35", x.shortest(0, 35, 0), 10);
        Due.is("to 35, too long", x.shortest(0, 35, 1), -1);
        x.set(1, 1, 1);
        Due.is("to a wall", x.shortest(0, 1, 0), -1);
        Due.is("to a wall", x.shortest(0, 1, 1), -1);
        Due.is("around a wall", x.shortest(0, 2, 0), 4);
        Due.is("around a wall", x.shortest(0, 2, 1), 3114);
        x.set(3, 0, 1);
        Due.is("off a wall", x.shortest(0, 0, 1), 2);
        Due.is("on a wall", x.shortest(0, 1, 0), 0);
        FlownOnceAndLaid y = Due.by("easts (word=7)*(column<5) - 5*(word=6); souths (word=6); rises 0;");
        y.carpet(0, 0, 0);
        Due.is("row by row", y.shortest(0, 35, 0), 35);
        Due.is("row by row", y.shortest(0, 35, 1), -1);
        Due.is("row by row", y.shortest(0, 8, 1), 88888788);
        Due.is("row by row", y.shortest(0, 9, 1), 888887888);
        Due.is("row by row", y.shortest(0, 10, 0), 10);
        Due.is("row by row", y.shortest(0, 10, 1), -1);
    }

    private static void thoughtsDoNotFly() {
        FlownOnceAndLaid x = Due.by("easts 1 + flown; souths 0; rises 0;");
        x.carpet(0, 0, 0);
        Due.is("not flown: to 2", x.shortest(0, 2, 1), 11);
        Due.is("not flown: there", x.there(0, 0), 63);
        x.set(4, 0, 1);
        Due.is("flown: to 2", x.shortest(0, 2, 1), 1);
        Due.is("flown: to 1", x.shortest(0, 1, 0), -1);
        Due.is("flown: there", x.there(0, 0), 1 + 4 + 16);
        Due.is("flown: rows", x.rows(0, 4, 2), 64);
    }

    private static void cellsThereAre() {
        FlownOnceAndLaid x = rugsByFourWinds(0);
        Due.is("all", x.there(0, 0), ALL);
        Due.is("no sink", x.there(0, 1), 0);
        x.set(1, 1, 1);
        x.set(1, 6, 1);
        Due.is("walled in", x.there(0, 0), 1);
        Due.is("a sink", x.there(0, 1), 1);
        x.set(3, 0, 35);
        Due.is("walled out", x.there(0, 0), ALL & ~(1 + 2 + 64));
        Due.is("no sink of these", x.there(0, 1), 0);
        x.set(3, 0, 6);
        Due.is("off a wall", x.there(0, 0), ALL & ~2);
        FlownOnceAndLaid y = Due.by("easts 1; souths 1; rises 0;");
        y.carpet(0, 0, 3);
        Due.is("a slope", y.there(0, 0), 1L << 3 | 1L << 10 | 1L << 17);
        Due.is("a slope's end", y.there(0, 1), 1L << 17);
    }

    private static void theFurthest() {
        FlownOnceAndLaid x = rugsByFourWinds(0);
        Due.is("furthest", x.furthest(0, 0), 35);
        Due.is("furthest", x.furthest(0, 1), 10);
        Due.is("idle", x.furthest(0, 2), 0xF0);
        for (int i = 0; i < 6; i++) {
            x.set(1, 5 + 6 * i, 1);
            x.set(1, 30 + i, 1);
        }
        x.set(3, 0, 14);
        Due.is("of four like ones the first", x.furthest(0, 0), 0);
        Due.is("of four like ones the first", x.furthest(0, 1), 4);
        x.set(1, 0, 1);
        Due.is("of three like ones the first", x.furthest(0, 0), 4);
        FlownOnceAndLaid y = Due.by("easts 1; souths 1; rises 0;");
        y.carpet(0, 0, 35);
        Due.is("it lies", y.furthest(0, 0), 35);
        Due.is("it lies", y.furthest(0, 1), 0);
        Due.is("all words are idle", y.furthest(0, 2), 255);
        FlownOnceAndLaid z = Due.by("easts (word=3)*(column=2) + (word<2); souths 0; rises 0;");
        z.carpet(0, 0, 0);
        Due.is("a word that moves it from one only is not idle", z.furthest(0, 2), 255 - 1 - 2 - 8);
        z.set(3, 0, 3);
        Due.is("a word that moves it from none of these", z.furthest(0, 2), 255 - 1 - 2);
    }

    private static void meetings() {
        FlownOnceAndLaid x = rugsByFourWinds(0, 1, 7, 0);
        Due.is("they lie on one", x.meet(0, 3, 0), 0);
        Due.is("they lie on one", x.meet(0, 3, 1), 0);
        Due.is("0 and 1", x.meet(0, 1, 0), 1);
        Due.is("0 and 1", x.meet(1, 0, 1), 0);
        Due.is("0 and 7", x.meet(0, 2, 0), 2);
        Due.is("0 and 7", x.meet(2, 0, 1), 0);
        x.set(3, 0, 2);
        x.set(3, 1, 3);
        Due.is("2 and 3", x.meet(0, 1, 0), 3);
        Due.is("2 and 3, east comes first", x.meet(0, 1, 1), 5);
        x.set(1, 5, 1);
        Due.is("2 and 3, east is nearer", x.meet(0, 1, 0), 2);
        Due.is("2 and 3, east is nearer", x.meet(0, 1, 1), 4);
        FlownOnceAndLaid y = Due.by("easts 0; souths 0; rises 0;");
        y.carpet(0, 0, 0);
        y.carpet(0, 0, 1);
        Due.is("never", y.meet(0, 1, 0), -1);
        Due.is("never", y.meet(0, 1, 1), -1);
        Due.is("meet moves none", x.told(0, 3), 2);
    }

    private static void rowsOfWords() {
        FlownOnceAndLaid x = rugsByFourWinds(0);
        Due.is("rows(0, 0, 0)", x.rows(0, 0, 0), 1);
        Due.is("rows(0, 1, 0)", x.rows(0, 1, 0), 0);
        Due.is("rows(0, 0, 1)", x.rows(0, 0, 1), 6);
        Due.is("rows(0, 1, 1)", x.rows(0, 1, 1), 1);
        Due.is("rows(0, 0, 2)", x.rows(0, 0, 2), 38);
        Due.is("rows(0, 7, 2)", x.rows(0, 7, 2), 2);
        long all = 0;
        for (int cell = 0; cell < 36; cell++) {
            all += x.rows(0, cell, 20);
        }
        Due.is("all rows of 20 words", all, 1L << 60);
        FlownOnceAndLaid y = Due.by("easts 0; souths 0; rises 0;");
        y.carpet(0, 0, 9);
        Due.is("rows(0, 9, 20)", y.rows(0, 9, 20), 1L << 60);
    }

    private static void theHighest() {
        FlownOnceAndLaid x = Due.by("easts 0; souths 0; rises number;");
        Due.is("highest(0) of none", x.highest(0), -1);
        Due.is("highest(1) of none", x.highest(1), -1);
        Due.is("highest(2) of none", x.highest(2), -2);
        x.carpet(4, 9, 35);
        Due.is("a doormat", x.highest(0), 0);
        Due.is("a doormat", x.highest(1), 0);
        x.carpet(2, 4, 0);
        x.carpet(0, 3, 6);
        x.carpet(0, 1, 18);
        Due.is("of like ones the first", x.highest(0), 1);
        Due.is("of like ones the first", x.highest(1), 4);
        x.set(2, 3, 5);
        Due.is("highest(0)", x.highest(0), 3);
        Due.is("highest(1)", x.highest(1), 5);
        x.set(3, 3, 12);
        Due.is("near ones count", x.highest(1), 6);
        Due.is("highest(2)", x.highest(2), -2);
        Due.is("highest(-1)", x.highest(-1), -2);
    }

    private static void refusals() {
        FlownOnceAndLaid x = rugsByFourWinds(0, 1);
        int[] noCarpets = {-1, 2, 4, Integer.MIN_VALUE, Integer.MAX_VALUE};
        for (int carpet : noCarpets) {
            Due.is("shortest(" + carpet + ", 0, 0)", x.shortest(carpet, 0, 0), -2);
            Due.is("there(" + carpet + ", 0)", x.there(carpet, 0), NO);
            Due.is("furthest(" + carpet + ", 0)", x.furthest(carpet, 0), -2);
            Due.is("meet(0, " + carpet + ", 0)", x.meet(0, carpet, 0), -2);
            Due.is("meet(" + carpet + ", 0, 0)", x.meet(carpet, 0, 0), -2);
            Due.is("meet(" + carpet + ", " + carpet + ", 0)", x.meet(carpet, carpet, 0), -2);
            Due.is("rows(" + carpet + ", 0, 0)", x.rows(carpet, 0, 0), NO);
        }
        Due.is("meet(1, 1, 0)", x.meet(1, 1, 0), -2);
        int[] outside = {-1, 36, Integer.MIN_VALUE, Integer.MAX_VALUE};
        for (int v : outside) {
            Due.is("shortest(0, " + v + ", 0)", x.shortest(0, v, 0), -2);
            Due.is("rows(0, " + v + ", 0)", x.rows(0, v, 0), NO);
            Due.is("rows(0, 0, " + v + ")", x.rows(0, 0, v), NO);
            Due.is("shortest(0, 0, " + v + ")", x.shortest(0, 0, v), -2);
            Due.is("there(0, " + v + ")", x.there(0, v), NO);
            Due.is("furthest(0, " + v + ")", x.furthest(0, v), -2);
            Due.is("meet(0, 1, " + v + ")", x.meet(0, 1, v), -2);
        }
        Due.is("rows(0, 0, 21)", x.rows(0, 0, 21), NO);
        Due.is("shortest(0, 0, 2)", x.shortest(0, 0, 2), -2);
        Due.is("there(0, 2)", x.there(0, 2), NO);
        Due.is("furthest(0, 3)", x.furthest(0, 3), -2);
        Due.is("meet(0, 1, 2)", x.meet(0, 1, 2), -2);
    }
}
