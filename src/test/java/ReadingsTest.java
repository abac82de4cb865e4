/** How the document is read where it leaves room: NOTES.md says why. A reading that turns out wrong is changed here. */
public final class ReadingsTest {
    public static void main(String[] args) throws IllegalAccessException {
        Each.of(ReadingsTest.class);
    }

    private static void aLongFlightThatCannotBeHasNoRow() {
        FlownOnceAndLaid x = Due.rugs(0);
        for (int wrong = 0; wrong < 20; wrong++) {
            x.sheet(0, 2, 20);
            x.cell(0, wrong, 35);
            Due.is("none, though 20 are told", x.tells(0, 0, 1), 0);
        }
    }

    private static void placesForSureAreLookedAtOneByOne() {
        FlownOnceAndLaid x = Due.rugs(0);
        Due.fill(x, 0, 2, 1, 35, 34);
        Due.is("one can't be, two are for sure", x.tells(0, 0, 2), 2);
    }

    private static void noCarpetsComeFromAnywhere() {
        FlownOnceAndLaid x = new FlownOnceAndLaid();
        x.sheet(0, 0, 3);
        int[] places = {-1, 3, 4, 99, Due.MIN, Due.MAX};
        for (int from : places) {
            Due.is("carpets(0, 0, " + from + ", 0)", x.carpets(0, 0, from, 0), 0);
        }
    }

    private static void ofDoesNotMatterToTheNightThatIsTold() {
        FlownOnceAndLaid x = new FlownOnceAndLaid();
        x.set(0, 0, 12);
        int[] others = {-1, 4, 36, Due.MIN, Due.MAX};
        for (int of : others) {
            Due.is("told(" + of + ", 0)", x.told(of, 0), 12);
        }
    }

    private static void itCouldBeOnAWallNow() {
        FlownOnceAndLaid x = Due.rugs(0);
        x.set(1, 7, 1);
        Due.fill(x, 0, 2, 8);
        Due.is("beside 8, or on it", x.ways(0, 0, 1), 1L << 2 | 1L << 7 | 1L << 8 | 1L << 9 | 1L << 14);
    }
}
