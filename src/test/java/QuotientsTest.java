/** Promises 9 and 10: quotients and rests, and greatest common divisors. */
final class QuotientsTest {
    public static void main(String[] args) {
        promise9Divide();
        promise9DivideLengths();
        promise9DivideIntoItsOwnRows();
        promise9DivideErrors();
        promise10Divisor();
        promise10DivisorLong();
        promise10DivisorErrors();
        Checks.end();
    }

    private static void promise9Divide() {
        Counted x = Checks.withRows(Checks.row(256, 0, 0, 1), Checks.row(256, 1), Checks.row(4, 13, 22, 15));
        Checks.changes(x, "divide(0, 1, 3, 4)", Checks.NONE, () -> x.divide(0, 1, 3, 4));
        Checks.dueRow("divide(0, 1, 3, 4): quotient", x, 3, 1, 1, 1);
        Checks.dueRow("divide(0, 1, 3, 4): rest", x, 4, 0);
        Checks.changes(x, "divide(2, 1, 4, 3)", 0, () -> x.divide(2, 1, 4, 3));
        Checks.dueRow("divide(2, 1, 4, 3): quotient", x, 4, 50, 37, 15);
        Checks.dueRow("divide(2, 1, 4, 3): rest", x, 3, 54);
        Counted y = Checks.withRows(Checks.row(5, 6, 7), Checks.row(0, 2));
        Checks.due("divide(0, 1, 2, 3)", y.divide(0, 1, 2, 3), 0);
        Checks.dueRow("a divisor whose last number is not 1", y, 2, 3, 132);
        Checks.dueRow("its rest", y, 3, 5);
    }

    private static void promise9DivideLengths() {
        // Numbers that are 0 at the ends count neither for the quotient nor for the rest.
        Counted x = Checks.withRows(
                Checks.row(7, 8, 0, 0), Checks.row(1, 2, 0, 4, 0), Checks.row(3, 0), Checks.row(0, 0, 0));
        Checks.changes(x, "divide(0, 1, 4, 5)", 1, () -> x.divide(0, 1, 4, 5));
        Checks.dueRow("a lower degree: quotient", x, 4, 0);
        Checks.dueRow("a lower degree: rest", x, 5, 7, 8, 0);
        Checks.changes(x, "divide(2, 1, 4, 5)", 0, () -> x.divide(2, 1, 4, 5));
        Checks.dueRow("degree 0: rest", x, 5, 3, 0, 0);
        Checks.changes(x, "divide(3, 1, 4, 5)", Checks.NONE, () -> x.divide(3, 1, 4, 5));
        Checks.dueRow("all 0: quotient", x, 4, 0);
        Checks.dueRow("all 0: rest", x, 5, 0, 0, 0);
        Checks.changes(x, "divide(1, 2, 4, 5)", Checks.NONE, () -> x.divide(1, 2, 4, 5));
        Checks.dueRow("by a number: quotient", x, 4, 86, 172, 0, 87);
        Checks.dueRow("by a number: rest", x, 5, 0);
        Checks.changes(x, "divide(1, 0, 4, 5)", 0, () -> x.divide(1, 0, 4, 5));
        Checks.due("by degree 1: length of the quotient", x.of(4, 0), 3);
        Checks.due("by degree 1: length of the rest", x.of(5, 0), 1);
        Checks.changes(x, "divide(3, 2, 4, 5)", Checks.NONE, () -> x.divide(3, 2, 4, 5));
        Checks.dueRow("all 0 by a number: quotient", x, 4, 0);
        Checks.dueRow("all 0 by a number: rest", x, 5, 0);
        Counted longest = Checks.withRows(Checks.all(64, 1), Checks.all(64, 2), Checks.row(1));
        Checks.due("two of 64", longest.divide(0, 1, 3, 4), Checks.NONE);
        Checks.dueRow("two of 64: quotient", longest, 3, 129);
        Checks.dueRow("two of 64: rest", longest, 4, Checks.all(63, 0));
        Checks.due("64 by 1", longest.divide(0, 2, 3, 4), Checks.NONE);
        Checks.dueRow("64 by 1: quotient", longest, 3, Checks.all(64, 1));
        Checks.due("1 by 64", longest.divide(2, 0, 3, 4), 0);
        Checks.due("1 by 64: length of the rest", longest.of(4, 0), 63);
    }

    private static void promise9DivideIntoItsOwnRows() {
        Counted x = Checks.withRows(Checks.row(256, 0, 0, 1), Checks.row(255, 1));
        Checks.changes(x, "divide(0, 1, 1, 0)", 0, () -> x.divide(0, 1, 1, 0));
        Checks.dueRow("quotient", x, 1, 4, 2, 1);
        Checks.dueRow("rest", x, 0, 7);
        Checks.changes(x, "divide(1, 1, 1, 5)", Checks.NONE, () -> x.divide(1, 1, 1, 5));
        Checks.dueRow("by itself: quotient", x, 1, 1);
        Checks.dueRow("by itself: rest", x, 5, 0, 0);
    }

    private static void promise9DivideErrors() {
        Counted x = Checks.withRows(Checks.row(1, 2), Checks.row(0, 0));
        Checks.unchanged(x, "divide(6, 0, 2, 3)", Checks.NO_SUCH, () -> x.divide(6, 0, 2, 3));
        Checks.unchanged(x, "divide(0, 6, 2, 3)", Checks.NO_SUCH, () -> x.divide(0, 6, 2, 3));
        Checks.unchanged(x, "divide(0, 0, 6, 3)", Checks.NO_SUCH, () -> x.divide(0, 0, 6, 3));
        Checks.unchanged(x, "divide(0, 0, 2, -1)", Checks.NO_SUCH, () -> x.divide(0, 0, 2, -1));
        Checks.unchanged(x, "divide(0, 1, 6, 6)", Checks.NO_SUCH, () -> x.divide(0, 1, 6, 6));
        Checks.unchanged(x, "divide(0, 0, 2, 2)", Checks.BAD_VALUE, () -> x.divide(0, 0, 2, 2));
        Checks.unchanged(x, "divide(0, 1, 2, 2)", Checks.BAD_VALUE, () -> x.divide(0, 1, 2, 2));
        Checks.unchanged(x, "divide(0, 1, 2, 3)", Checks.NOT_POSSIBLE, () -> x.divide(0, 1, 2, 3));
        Checks.unchanged(x, "divide(1, 5, 2, 3)", Checks.NOT_POSSIBLE, () -> x.divide(1, 5, 2, 3));
    }

    private static void promise10Divisor() {
        // (1 + x)(2 + x)(3 + 5x) and (1 + x)(2 + x)(7 + xx)
        Counted x = Checks.withRows(
                Checks.row(6, 19, 18, 5), Checks.row(14, 21, 9, 3, 1), Checks.row(0, 0), Checks.row(9, 0, 0));
        Checks.changes(x, "divisor(0, 1, 4)", 2, () -> x.divisor(0, 1, 4));
        Checks.dueRow("divisor(0, 1, 4)", x, 4, 2, 3, 1);
        Checks.changes(x, "divisor(1, 0, 5)", 2, () -> x.divisor(1, 0, 5));
        Checks.dueRow("divisor(1, 0, 5)", x, 5, 2, 3, 1);
        Checks.changes(x, "divisor(2, 3, 5)", 0, () -> x.divisor(2, 3, 5));
        Checks.dueRow("divisor(2, 3, 5)", x, 5, 1);
        Checks.changes(x, "divisor(0, 2, 5)", 3, () -> x.divisor(0, 2, 5));
        Checks.due("its last number", x.number(5, 3), 1);
        Checks.due("its number 0: 6 by 5", x.number(5, 0) * 5 % 257, 6);
        Checks.changes(x, "divisor(0, 3, 5)", 0, () -> x.divisor(0, 3, 5));
        Checks.dueRow("divisor(0, 3, 5)", x, 5, 1);
        Checks.due("divisor(0, 1, 0)", x.divisor(0, 1, 0), 2);
        Checks.dueRow("divisor(0, 1, 0)", x, 0, 2, 3, 1);
        Checks.due("divisor(0, 1, 1)", x.divisor(0, 1, 1), 2);
        Checks.dueRow("divisor(0, 1, 1)", x, 1, 2, 3, 1);
    }

    private static void promise10DivisorLong() {
        // x^63 - 1 and x^62 - 1 have only x - 1; the row of x^0 .. x^63 has as its parts those of x^64 - 1 but x - 1.
        int[] first = Checks.all(64, 0);
        first[0] = 256;
        first[63] = 1;
        int[] second = Checks.all(63, 0);
        second[0] = 256;
        second[62] = 1;
        Counted x = Checks.withRows(first, second, Checks.all(64, 3), Checks.all(32, 5));
        Checks.due("divisor of degrees 63 and 62", x.divisor(0, 1, 4), 1);
        Checks.dueRow("divisor of degrees 63 and 62", x, 4, 256, 1);
        Checks.due("divisor of 64 and 32", x.divisor(3, 2, 5), 31);
        Checks.dueRow("divisor of 64 and 32", x, 5, Checks.all(32, 1));
        Counted y = fibonacci();
        Checks.due("a divisor by 63 steps", y.divisor(0, 1, 2), 0);
        Checks.dueRow("a divisor by 63 steps", y, 2, 1);
    }

    /** Two rows of the degrees 63 and 62 whose quotients are all x: no other ones take more steps. */
    private static Counted fibonacci() {
        int[] lower = Checks.row(1);
        int[] upper = Checks.row(0, 1);
        while (upper.length < 64) {
            int[] next = new int[upper.length + 1];
            System.arraycopy(upper, 0, next, 1, upper.length);
            for (int place = 0; place < lower.length; place++) {
                next[place] = (next[place] + lower[place]) % 257;
            }
            lower = upper;
            upper = next;
        }
        return Checks.withRows(lower, upper);
    }

    private static void promise10DivisorErrors() {
        Counted x = Checks.withRows(Checks.row(1, 2), Checks.row(0, 0));
        Checks.unchanged(x, "divisor(6, 0, 0)", Checks.NO_SUCH, () -> x.divisor(6, 0, 0));
        Checks.unchanged(x, "divisor(0, 6, 0)", Checks.NO_SUCH, () -> x.divisor(0, 6, 0));
        Checks.unchanged(x, "divisor(1, 1, 6)", Checks.NO_SUCH, () -> x.divisor(1, 1, 6));
        Checks.unchanged(x, "divisor(1, 1, 0)", Checks.NOT_POSSIBLE, () -> x.divisor(1, 1, 0));
        Checks.unchanged(x, "divisor(1, 5, 0)", Checks.NOT_POSSIBLE, () -> x.divisor(1, 5, 0));
    }
}
