import java.util.ArrayList;
import java.util.List;
import java.util.function.Consumer;
import java.util.function.ToLongFunction;

/** Two objects that were told the same; one refuses a call, and then both must answer alike to all that can be asked. */
final class Twins {
    private Twins() {
    }

    static void refuse(String call, long due, Consumer<FlownOnceAndLaid> told, ToLongFunction<FlownOnceAndLaid> asked) {
        FlownOnceAndLaid x = new FlownOnceAndLaid();
        FlownOnceAndLaid y = new FlownOnceAndLaid();
        told.accept(x);
        told.accept(y);
        Due.is(call, asked.applyAsLong(x), due);
        alike(call, x, y);
    }

    private static void alike(String call, FlownOnceAndLaid x, FlownOnceAndLaid y) {
        List<Long> one = all(x);
        List<Long> other = all(y);
        for (int i = 0; i < other.size(); i++) {
            Due.is("behind " + call + ", look " + i, one.get(i), other.get(i));
        }
    }

    private static List<Long> all(FlownOnceAndLaid x) {
        List<Long> seen = new ArrayList<>();
        floor(x, seen);
        sheets(x, seen);
        items(x, seen);
        texts(x, seen);
        seen.add((long) x.feed(32));
        seen.add((long) x.text());
        seen.add((long) x.back());
        floor(x, seen);
        return seen;
    }

    private static void floor(FlownOnceAndLaid x, List<Long> seen) {
        for (int what = 0; what < 6; what++) {
            seen.add((long) x.count(what));
        }
        seen.add((long) x.told(0, 0));
        for (int cell = 0; cell < 36; cell++) {
            seen.add((long) x.told(cell, 1));
        }
        for (int carpet = 0; carpet < 4; carpet++) {
            for (int what = 2; what <= 17; what++) {
                if (what < 7 || what > 9) {
                    seen.add((long) x.told(carpet, what));
                }
            }
        }
    }

    /** Which sheets are missing, of which sort and how long the others are. */
    private static void sheets(FlownOnceAndLaid x, List<Long> seen) {
        for (int sheet = 0; sheet < 4; sheet++) {
            for (int sort = 0; sort < 3; sort++) {
                seen.add((long) x.carpets(sheet, sort, 0, 0));
            }
            for (int i = 0; i < 9; i++) {
                seen.add((long) x.copy(sheet, i, sheet, i, 0));
            }
        }
    }

    /** Sheet 2 takes one item after the other: the cells from which one would come there are a sign of it. */
    private static void items(FlownOnceAndLaid x, List<Long> seen) {
        int[] sheets = {0, 1, 3};
        for (int sheet : sheets) {
            for (int sort = 0; sort < 3; sort++) {
                if (x.carpets(sheet, sort, 0, 0) == 0) {
                    x.sheet(2, sort, 1);
                }
            }
            for (int i = 0; i < 8; i++) {
                seen.add((long) x.copy(sheet, i, 2, 0, 1));
                seen.add(x.ways(2, 0, 1));
            }
        }
    }

    private static void texts(FlownOnceAndLaid x, List<Long> seen) {
        for (int text = 0; text < 6; text++) {
            seen.add((long) x.force(text));
            seen.add((long) x.asks(0, 14, 3, 0));
            seen.add((long) x.asks(0, 14, 3, 1));
            seen.add((long) x.told(0, 6));
        }
    }
}
