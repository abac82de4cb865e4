/** What the tests of the project share: it counts the answers that are not due, and feeds texts. */
final class Due {
    static final String FOUR_WINDS = "easts (word=0)-(word=1); souths (word=2)-(word=3); rises 0;";

    private static int wrong = 0;
    private static int asked = 0;

    private Due() {
    }

    static void is(String call, long got, long want) {
        asked++;
        if (got != want) {
            wrong++;
            if (wrong <= 50) {
                System.out.println(call + " answered " + got + ", due is " + want);
            }
        }
    }

    static int text(FlownOnceAndLaid x, String text) {
        for (int i = 0; i < text.length(); i++) {
            x.feed(text.charAt(i));
        }
        return x.text();
    }

    /** A new object whose rule is the text. */
    static FlownOnceAndLaid by(String text) {
        FlownOnceAndLaid x = new FlownOnceAndLaid();
        is("the text " + text, text(x, text), 1);
        is("force(1)", x.force(1), 0);
        return x;
    }

    static void fill(FlownOnceAndLaid x, int sheet, int sort, int... items) {
        is("sheet(" + sheet + ", " + sort + ", " + items.length + ")", x.sheet(sheet, sort, items.length), 1);
        for (int i = 0; i < items.length; i++) {
            is("cell(" + sheet + ", " + i + ", " + items[i] + ")", x.cell(sheet, i, items[i]), 1);
        }
    }

    static void end() {
        System.out.println(asked + " answers, " + wrong + " of them not as due");
        if (wrong != 0) {
            System.exit(1);
        }
    }
}
