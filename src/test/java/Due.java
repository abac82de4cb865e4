/** What the tests of the project share: it counts the answers that are not due, and feeds texts. */
final class Due {
    static final String FOUR_WINDS = "easts (word=0)-(word=1); souths (word=2)-(word=3); rises 0;";
    static final int NONE = -1, BAD = -2, STATE = -3, FULL = -4;
    static final int MISSING = -11, OUTSIDE = -12, OTHER_SORT = -13, BELOW_0 = -14, NONE_SUCH = -1000;
    static final long NO = -4611686018427387904L;
    static final int MIN = Integer.MIN_VALUE, MAX = Integer.MAX_VALUE;

    private static int wrong = 0;
    private static int asked = 0;

    private Due() {
    }

    static void is(String call, long got, long want) {
        asked++;
        if (got != want) {
            fails(call + " answered " + got + ", due is " + want);
        }
    }

    static void fails(String why) {
        wrong++;
        if (wrong <= 50) {
            System.out.println(why);
        }
    }

    static int wrong() {
        return wrong;
    }

    static int text(FlownOnceAndLaid x, String text) {
        feed(x, text);
        return x.text();
    }

    static void feed(FlownOnceAndLaid x, String text) {
        for (int i = 0; i < text.length(); i++) {
            x.feed(text.charAt(i));
        }
    }

    /** A new object whose rule is the text. */
    static FlownOnceAndLaid by(String text) {
        FlownOnceAndLaid x = new FlownOnceAndLaid();
        is("the text " + text, text(x, text), 1);
        is("force(1)", x.force(1), 0);
        return x;
    }

    /** A new object with one carpet that goes by the text. */
    static FlownOnceAndLaid oneBy(String text, int kind, int number, int on) {
        FlownOnceAndLaid x = by(text);
        is("carpet(" + kind + ", " + number + ", " + on + ")", x.carpet(kind, number, on), 0);
        return x;
    }

    /** A new object with rugs on the cells, all of which go by FOUR_WINDS: 0 east, 1 west, 2 south, 3 north. */
    static FlownOnceAndLaid rugs(int... cells) {
        FlownOnceAndLaid x = by(FOUR_WINDS);
        for (int cell : cells) {
            x.carpet(0, 0, cell);
        }
        return x;
    }

    static void fill(FlownOnceAndLaid x, int sheet, int sort, int... items) {
        is("sheet(" + sheet + ", " + sort + ", " + items.length + ")", x.sheet(sheet, sort, items.length), 1);
        for (int i = 0; i < items.length; i++) {
            is("cell(" + sheet + ", " + i + ", " + items[i] + ")", x.cell(sheet, i, items[i]), 1);
        }
    }

    static void end() {
        System.out.println(asked + " answers, " + wrong + " of them not as due");
        if (wrong != 0) {
            System.exit(1);
        }
    }
}
