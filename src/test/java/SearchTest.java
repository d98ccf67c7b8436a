/** Promises 18 to 20: places that fit, sums, and false ones. */
final class SearchTest {
    public static void main(String[] args) {
        promise18Fits();
        promise18FitsLong();
        promise18FitsErrors();
        promise19Sum();
        promise19SumErrors();
        promise20Found();
        promise20FoundLong();
        promise20FoundAtTheEnd();
        promise20FoundErrors();
        Checks.end();
    }

    private static void promise18Fits() {
        Counted x = Checks.withRows(Checks.row(1, 2, 0, 2, 3), Checks.row(1, 2), Checks.row(1, 0, 1), Checks.row(3));
        Checks.unchanged(x, "fits(0, 1)", 0b101, () -> (int) x.fits(0, 1));
        Checks.due("fits(0, 1) as a whole", x.fits(0, 1), 0b0101L);
        Checks.due("fits(0, 2)", x.fits(0, 2), 0b001L);
        Checks.due("fits(0, 3)", x.fits(0, 3), 0b10100L);
        Checks.due("fits(0, 0)", x.fits(0, 0), 1L);
        Checks.due("fits(0, 5): a blank", x.fits(0, 5), 0b11111L);
        Checks.due("fits(5, 3): in a blank", x.fits(5, 3), 1L);
        Checks.due("fits(3, 3)", x.fits(3, 3), 1L);
        x.set(4, 0, 4);
        Checks.due("fits(3, 4)", x.fits(3, 4), 0L);
    }

    private static void promise18FitsLong() {
        Counted x = Checks.withRows(Checks.all(64, 0), Checks.row(9), Checks.all(5, 9), Checks.all(64, 9));
        long below60 = (1L << 60) - 1;
        Checks.due("fits(0, 1)", x.fits(0, 1), below60);
        Checks.due("fits(0, 2)", x.fits(0, 2), below60);
        Checks.due("fits(0, 3)", x.fits(0, 3), 1L);
        Checks.due("fits(3, 1)", x.fits(3, 1), below60);
        x.set(3, 59, 8);
        Checks.due("fits(3, 1) but for 59", x.fits(3, 1), below60 >> 1);
        x.set(3, 60, 8);
        x.set(3, 33, 8);
        Checks.due("fits(3, 1) but for 33, 59, 60", x.fits(3, 1), (below60 >> 1) ^ 1L << 33);
        x.add(1, 1, 1, 1);
        Checks.due("fits(3, 1) nowhere", x.fits(3, 1), 0L);
        x.set(3, 63, 18);
        Checks.due("fits(3, 1) at 63 alone", x.fits(3, 1), 0L);
    }

    private static void promise18FitsErrors() {
        Counted x = Checks.withRows(Checks.row(1), Checks.row(0, 0));
        Checks.unchanged(x, "fits(6, 0)", Checks.NO_SUCH, () -> x.fits(6, 0));
        Checks.unchanged(x, "fits(0, 6)", Checks.NO_SUCH, () -> x.fits(0, 6));
        Checks.unchanged(x, "fits(-1, 1)", Checks.NO_SUCH, () -> x.fits(-1, 1));
        Checks.unchanged(x, "fits(0, 1)", Checks.NOT_POSSIBLE, () -> x.fits(0, 1));
    }

    private static void promise19Sum() {
        Counted x = Checks.withRows(Checks.row(1, 2, 0, 4), Checks.row(1, 2), Checks.row(256), Checks.row(255),
                Checks.row(236));
        Checks.unchanged(x, "sum(0, 1, 0)", 0, () -> x.sum(0, 1, 0));
        Checks.due("sum(0, 1, 1)", x.sum(0, 1, 1), 2);
        Checks.due("sum(0, 1, 2)", x.sum(0, 1, 2), 4 * 2 * 2 * 2);
        Checks.due("sum(0, 0, 0)", x.sum(0, 0, 0), 0);
        Checks.due("sum(2, 0, ..): too long", x.sum(2, 0, 0), Checks.NOT_POSSIBLE);
        Checks.due("sum(0, 2, 0)", x.sum(0, 2, 0), 257 - 4);
        Checks.due("sum(2, 2, 0)", x.sum(2, 2, 0), 0);
        Checks.due("sum(3, 2, 0)", x.sum(3, 2, 0), 2);
        Checks.due("sum(2, 3, 0)", x.sum(2, 3, 0), 2);
        Checks.due("sum(4, 3, 0)", x.sum(4, 3, 0), 256);
        Checks.due("sum(5, 3, 0)", x.sum(5, 3, 0), 0);
        Checks.due("sum(3, 5, 0)", x.sum(3, 5, 0), 0);
        Counted y = Checks.withRows(Checks.all(64, 255), Checks.all(64, 236));
        Checks.due("sum of 64", y.sum(0, 1, 0), 257 - 64);
    }

    private static void promise19SumErrors() {
        Counted x = Checks.withRows(Checks.row(1, 2, 3), Checks.row(1, 2), Checks.all(4, 0));
        Checks.unchanged(x, "sum(6, 0, 0)", Checks.NO_SUCH, () -> x.sum(6, 0, 0));
        Checks.unchanged(x, "sum(0, 6, -1)", Checks.NO_SUCH, () -> x.sum(0, 6, -1));
        Checks.unchanged(x, "sum(0, 2, 0)", Checks.NOT_POSSIBLE, () -> x.sum(0, 2, 0));
        Checks.unchanged(x, "sum(0, 2, -1)", Checks.NOT_POSSIBLE, () -> x.sum(0, 2, -1));
        Checks.unchanged(x, "sum(0, 1, -1)", Checks.BAD_VALUE, () -> x.sum(0, 1, -1));
        Checks.unchanged(x, "sum(0, 1, 2)", Checks.BAD_VALUE, () -> x.sum(0, 1, 2));
        Checks.unchanged(x, "sum(0, 0, 1)", Checks.BAD_VALUE, () -> x.sum(0, 0, 1));
        int greatest = Integer.MAX_VALUE;
        Checks.unchanged(x, "sum(0, 1, greatest)", Checks.BAD_VALUE, () -> x.sum(0, 1, greatest));
    }

    private static void promise20Found() {
        // 1 and 3 against 2 and 126 (or 191, or 203): the sum is 2 + 255, so that these places are false ones.
        Counted x = Checks.withRows(Checks.row(1, 3, 2, 126, 2, 191, 1, 0), Checks.row(1, 3), Checks.row(1, 4));
        Checks.unchanged(x, "found(0, 1, 0)", 2, () -> x.found(0, 1, 0));
        Checks.unchanged(x, "found(0, 1, 1)", 2, () -> x.found(0, 1, 1));
        Checks.unchanged(x, "found(0, 1, 2)", 2, () -> x.found(0, 1, 2));
        Checks.due("sum(0, 1, 2)", x.sum(0, 1, 2), 0);
        Checks.due("sum(0, 1, 4)", x.sum(0, 1, 4), 0);
        Checks.due("fits(0, 1)", x.fits(0, 1), 0b1000001L);
        int greatest = 0;
        for (int place = 0; place < 7; place++) {
            greatest = Math.max(greatest, x.sum(0, 1, place));
        }
        Checks.due("found(0, 1, 3)", x.found(0, 1, 3), greatest);
        Checks.due("found(0, 2, 1)", x.found(0, 2, 1), 0);
        Checks.due("found(0, 2, 2)", x.found(0, 2, 2), Checks.NONE);
        Checks.due("found(0, 2, 0)", x.found(0, 2, 0), 1);
        Checks.due("found(0, 5, 0)", x.found(0, 5, 0), 8);
        Checks.due("found(0, 5, 1)", x.found(0, 5, 1), 0);
        Checks.due("found(0, 5, 3)", x.found(0, 5, 3), 0);
        Counted y = Checks.withRows(Checks.row(2, 126), Checks.row(1, 3));
        Checks.due("a false one at 0: found(0, 1, 0)", y.found(0, 1, 0), 0);
        Checks.due("a false one at 0: found(0, 1, 1)", y.found(0, 1, 1), 1);
        Checks.due("a false one at 0: found(0, 1, 2)", y.found(0, 1, 2), 0);
    }

    private static void promise20FoundLong() {
        int[] text = Checks.all(64, 1);
        text[62] = 2;
        text[63] = 126;
        Counted x = Checks.withRows(text, Checks.row(1, 3), Checks.row(2), Checks.all(64, 0), Checks.row(126));
        Checks.due("a false one at 62: found(0, 1, 1)", x.found(0, 1, 1), 1);
        Checks.due("a false one at 62: found(0, 1, 2)", x.found(0, 1, 2), 62);
        Checks.due("a place above 60: found(0, 2, 0)", x.found(0, 2, 0), 1);
        Checks.due("a place above 60: fits(0, 2)", x.fits(0, 2), 0);
        Checks.due("the last place: found(0, 4, 0)", x.found(0, 4, 0), 1);
        Checks.due("blanks: found(3, 1, 0)", x.found(3, 1, 0), 63);
        Checks.due("blanks: found(3, 5, 0)", x.found(3, 5, 0), 64);
        Checks.due("the greatest sum of a blank", x.found(0, 5, 3), 0);
        x.set(5, 0, 255);
        x.set(3, 63, 236);
        Checks.due("the greatest sum at the last place", x.found(3, 5, 3), 256);
        x.set(3, 63, 0);
        x.set(3, 0, 236);
        Checks.due("the greatest sum at the first place", x.found(3, 5, 3), 256);
    }

    /** What would be found if the pattern could stand with its end beyond that of the text. */
    private static void promise20FoundAtTheEnd() {
        Counted x = Checks.withRows(Checks.row(9, 2, 126), Checks.row(1, 3, 5), Checks.row(0, 255), Checks.row(236, 255));
        Checks.due("found(0, 1, 0)", x.found(0, 1, 0), 0);
        Checks.due("found(0, 1, 1)", x.found(0, 1, 1), 0);
        Checks.due("found(0, 1, 2)", x.found(0, 1, 2), Checks.NONE);
        Checks.due("found(2, 3, 3)", x.found(2, 3, 3), 0);
        Checks.due("found(2, 3, 0)", x.found(2, 3, 0), 1);
        Checks.due("fits(2, 3)", x.fits(2, 3), 1);
    }

    private static void promise20FoundErrors() {
        Counted x = Checks.withRows(Checks.row(1), Checks.row(1, 2));
        Checks.unchanged(x, "found(6, 0, 0)", Checks.NO_SUCH, () -> x.found(6, 0, 0));
        Checks.unchanged(x, "found(0, 6, 4)", Checks.NO_SUCH, () -> x.found(0, 6, 4));
        Checks.unchanged(x, "found(0, 1, 0)", Checks.NOT_POSSIBLE, () -> x.found(0, 1, 0));
        Checks.unchanged(x, "found(0, 1, 4)", Checks.NOT_POSSIBLE, () -> x.found(0, 1, 4));
        Checks.unchanged(x, "found(1, 0, 4)", Checks.BAD_VALUE, () -> x.found(1, 0, 4));
        Checks.unchanged(x, "found(1, 0, -1)", Checks.BAD_VALUE, () -> x.found(1, 0, -1));
    }
}
