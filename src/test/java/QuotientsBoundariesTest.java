/** The boundary cases of the promises 9 and 10, and of what the document's terms say of quotients and divisors. */
final class QuotientsBoundariesTest {
    private static final int[] NO_REGISTERS = {-1, 6, 7, Integer.MIN_VALUE, Integer.MAX_VALUE};

    public static void main(String[] args) {
        promise9Registers();
        promise9ToAndToRestTheSame();
        promise9DegreeBelowAboveAndTheSame();
        promise9RowAll0();
        promise9LengthOfTheRest();
        promise9ZerosAtTheEnds();
        promise9LongestRows();
        promise9NoneIfTheRestIsAll0();
        promise9DivisorAll0();
        promise9NumbersAsDivisors();
        promise9IntoRowsItIsMadeOf();
        promise9FirstErrorFirst();
        promise10Registers();
        promise10OneRowAll0();
        promise10BothRowsAll0();
        promise10With1AtItsDegree();
        promise10LengthIsItsDegreeAnd1();
        promise10LongestRows();
        promise10IntoRowsItIsMadeOf();
        promise10FirstErrorFirst();
        Checks.end();
    }

    // ---- promise 9: divide

    private static void promise9Registers() {
        for (int none : NO_REGISTERS) {
            Checks.refused("divide(" + none + ", 2, 3, 5)", Checks.NO_SUCH, x -> x.divide(none, 2, 3, 5));
            Checks.refused("divide(0, " + none + ", 3, 5)", Checks.NO_SUCH, x -> x.divide(0, none, 3, 5));
            Checks.refused("divide(0, 2, " + none + ", 5)", Checks.NO_SUCH, x -> x.divide(0, 2, none, 5));
            Checks.refused("divide(0, 2, 3, " + none + ")", Checks.NO_SUCH, x -> x.divide(0, 2, 3, none));
        }
        for (int register = 0; register < 6; register++) {
            int to = register;
            int toRest = 5 - register;
            Checks.changedTwo(Checks::full, "divide(0, 3, " + to + ", " + toRest + ")", 0,
                    x -> x.divide(0, 3, to, toRest), to, Checks.row(129, 65), toRest, Checks.row(1));
        }
        Checks.changedTwo(Checks::full, "divide(5, 5, 0, 1)", Checks.NONE, x -> x.divide(5, 5, 0, 1),
                0, Checks.row(1), 1, Checks.row(0, 0, 0, 0));
    }

    /** "BAD_VALUE if to and toRest are the same". */
    private static void promise9ToAndToRestTheSame() {
        for (int register = 0; register < 6; register++) {
            int to = register;
            Checks.refused("divide(0, 2, " + to + ", " + to + ")", Checks.BAD_VALUE, x -> x.divide(0, 2, to, to));
        }
    }

    /** "The length of q is the degree of a, less that of b, and 1, but 1 if that is below 1". */
    private static void promise9DegreeBelowAboveAndTheSame() {
        Checks.Maker maker = () -> Checks.withRows(Checks.row(6, 5, 1), Checks.row(2, 1), Checks.row(7, 5, 2),
                Checks.row(8, 8, 8, 8));
        dueDivided(maker, 0, 1, Checks.NONE, Checks.row(3, 1), Checks.row(0));
        dueDivided(maker, 2, 1, 0, Checks.row(1, 2), Checks.row(5));
        dueDivided(maker, 0, 2, 1, Checks.row(129), Checks.row(131, 131));
        dueDivided(maker, 1, 0, 1, Checks.row(0), Checks.row(2, 1));
        dueDivided(maker, 1, 3, 1, Checks.row(0), Checks.row(2, 1, 0));
        dueDivided(maker, 0, 3, 2, Checks.row(0), Checks.row(6, 5, 1));
        dueDivided(maker, 3, 3, Checks.NONE, Checks.row(1), Checks.row(0, 0, 0));
        dueDivided(maker, 3, 0, 1, Checks.row(225, 8), Checks.row(200, 120));
    }

    private static void dueDivided(Checks.Maker maker, int register, int other, int want, int[] quotient, int[] rest) {
        Checks.changedTwo(maker, "divide(" + register + ", " + other + ", 4, 5)", want,
                x -> x.divide(register, other, 4, 5), 4, quotient, 5, rest);
    }

    /** ".. or a is all 0": the quotient is the one number 0 then, whatever the degree of b, and the lengths. */
    private static void promise9RowAll0() {
        Checks.Maker maker = () -> {
            Counted x = Checks.withRows(Checks.row(9), Checks.row(9, 1), Checks.row(9, 0, 1), Checks.row(0, 0, 0, 0));
            x.round(5, 5, 64, 4);
            return x;
        };
        for (int all0 = 3; all0 < 6; all0++) {
            dueDivided(maker, all0, 0, Checks.NONE, Checks.row(0), Checks.row(0));
            dueDivided(maker, all0, 1, Checks.NONE, Checks.row(0), Checks.row(0));
            dueDivided(maker, all0, 2, Checks.NONE, Checks.row(0), Checks.row(0, 0));
        }
    }

    /** "that of r is the degree of b, but 1 if that is 0", whatever the length of the row that is divided. */
    private static void promise9LengthOfTheRest() {
        for (int degree = 0; degree < 64; degree++) {
            Counted x = Checks.withRows(Checks.row(0), Checks.row(4));
            x.set(2, 0, 7);
            x.round(0, 0, 64, 3);
            x.set(3, degree, 1);
            String call = "by a row of the degree " + degree;
            Checks.due(call, x.divide(2, 3, 4, 5), degree == 0 ? Checks.NONE : 0);
            Checks.due(call + ": length of the quotient", x.of(4, 0), 1);
            Checks.due(call + ": length of the rest", x.of(5, 0), Math.max(1, degree));
            Checks.due(call + ": number 0 of the rest", x.number(5, 0), degree == 0 ? 0 : 7);
            Checks.due(call + ": sum of the rest", x.of(5, 3), degree == 0 ? 0 : 7);
        }
    }

    /** Numbers that are 0 at the ends of the rows count neither for the degrees nor for the lengths. */
    private static void promise9ZerosAtTheEnds() {
        Checks.Maker maker = () -> Checks.withRows(Checks.row(6, 5, 1, 0, 0), Checks.row(2, 1, 0), Checks.row(4, 0, 0, 0),
                Checks.row(2, 0));
        dueDivided(maker, 0, 1, Checks.NONE, Checks.row(3, 1), Checks.row(0));
        dueDivided(maker, 1, 0, 1, Checks.row(0), Checks.row(2, 1));
        dueDivided(maker, 2, 3, Checks.NONE, Checks.row(2), Checks.row(0));
        dueDivided(maker, 3, 2, Checks.NONE, Checks.row(129), Checks.row(0));
        dueDivided(maker, 2, 1, 0, Checks.row(0), Checks.row(4));
        dueDivided(maker, 0, 3, Checks.NONE, Checks.row(3, 131, 129), Checks.row(0));
    }

    private static void promise9LongestRows() {
        int[] power63 = Checks.all(64, 0);
        power63[63] = 1;
        Checks.Maker maker = () -> {
            Counted x = Checks.withRows(Checks.row(0, 1), Checks.row(2));
            x.round(5, 5, 64, 2);
            x.set(2, 63, 1);
            x.add(2, 1, 128, 3);
            return x;
        };
        // x^63; x^63 and 256; the numbers 2 and 0,1
        dueDivided(maker, 2, 1, Checks.NONE, divided(power63, 129), Checks.row(0));
        dueDivided(maker, 2, 0, Checks.NONE, java.util.Arrays.copyOfRange(power63, 1, 64), Checks.row(0));
        int[] rest = Checks.all(63, 0);
        rest[0] = 1;
        dueDivided(maker, 2, 3, 0, Checks.row(1), rest);
        dueDivided(maker, 2, 2, Checks.NONE, Checks.row(1), Checks.all(63, 0));
        rest[0] = 2;
        dueDivided(maker, 1, 2, 0, Checks.row(0), rest);
        rest[0] = 0;
        rest[1] = 1;
        dueDivided(maker, 0, 2, 1, Checks.row(0), rest);
    }

    private static int[] divided(int[] row, int factor) {
        int[] result = new int[row.length];
        for (int k = 0; k < row.length; k++) {
            result[k] = row[k] * factor % 257;
        }
        return result;
    }

    /** "Returns the degree of the rest (NONE)": 0 is a degree, and the rest's last numbers can be 0. */
    private static void promise9NoneIfTheRestIsAll0() {
        Checks.Maker maker = () -> Checks.withRows(Checks.row(0, 0, 0, 1), Checks.row(0, 0, 1), Checks.row(4, 0, 0, 1),
                Checks.row(4, 3, 0, 1));
        dueDivided(maker, 0, 1, Checks.NONE, Checks.row(0, 1), Checks.row(0, 0));
        dueDivided(maker, 2, 1, 0, Checks.row(0, 1), Checks.row(4, 0));
        dueDivided(maker, 3, 1, 1, Checks.row(0, 1), Checks.row(4, 3));
    }

    /** "NOT_POSSIBLE if the second row is all 0". */
    private static void promise9DivisorAll0() {
        Checks.refused("divide(0, 1, 4, 5)", Checks.NOT_POSSIBLE, x -> x.divide(0, 1, 4, 5));
        Checks.refused("divide(1, 1, 4, 5)", Checks.NOT_POSSIBLE, x -> x.divide(1, 1, 4, 5));
        Checks.leaves(Counted::new, "divide(0, 1, 2, 3)", Checks.NOT_POSSIBLE, x -> x.divide(0, 1, 2, 3));
        Checks.Maker maker = () -> {
            Counted x = Checks.withRows(Checks.row(7));
            x.round(5, 5, 64, 1);
            return x;
        };
        Checks.leaves(maker, "divide(0, 1, 2, 3)", Checks.NOT_POSSIBLE, x -> x.divide(0, 1, 2, 3));
        Checks.changedTwo(() -> {
            Counted x = maker.make();
            x.set(1, 63, 1);
            return x;
        }, "divide(0, 1, 2, 3)", 0, x -> x.divide(0, 1, 2, 3), 2, Checks.row(0), 3, sevenAnd62());
    }

    private static int[] sevenAnd62() {
        int[] row = Checks.all(63, 0);
        row[0] = 7;
        return row;
    }

    /** A number as a divisor: 1, 256, and the last number of a longer one. */
    private static void promise9NumbersAsDivisors() {
        Checks.Maker maker = () -> Checks.withRows(Checks.row(1, 2, 256), Checks.row(1), Checks.row(256),
                Checks.row(0, 256));
        dueDivided(maker, 0, 1, Checks.NONE, Checks.row(1, 2, 256), Checks.row(0));
        dueDivided(maker, 0, 2, Checks.NONE, Checks.row(256, 255, 1), Checks.row(0));
        dueDivided(maker, 0, 3, 0, Checks.row(255, 1), Checks.row(1));
        dueDivided(maker, 1, 1, Checks.NONE, Checks.row(1), Checks.row(0));
        dueDivided(maker, 1, 2, Checks.NONE, Checks.row(256), Checks.row(0));
    }

    /** 6,5,1 by 2,1,.. : each way in which the two results can get the two rows' own registers. */
    private static void promise9IntoRowsItIsMadeOf() {
        Checks.Maker maker = () -> Checks.withRows(Checks.row(7, 5, 1), Checks.row(2, 1));
        int[] quotient = {3, 1};
        int[] rest = {1};
        int[][] targets = {{0, 1}, {1, 0}, {0, 5}, {5, 0}, {1, 5}, {5, 1}};
        for (int[] to : targets) {
            Checks.changedTwo(maker, "divide(0, 1, " + to[0] + ", " + to[1] + ")", 0,
                    x -> x.divide(0, 1, to[0], to[1]), to[0], quotient, to[1], rest);
        }
        Checks.changedTwo(maker, "divide(0, 0, 0, 1)", Checks.NONE, x -> x.divide(0, 0, 0, 1),
                0, Checks.row(1), 1, Checks.row(0, 0));
        Checks.changedTwo(maker, "divide(0, 0, 1, 0)", Checks.NONE, x -> x.divide(0, 0, 1, 0),
                1, Checks.row(1), 0, Checks.row(0, 0));
    }

    private static void promise9FirstErrorFirst() {
        Checks.refused("divide(6, 1, 3, 3)", Checks.NO_SUCH, x -> x.divide(6, 1, 3, 3));
        Checks.refused("divide(0, -1, 3, 3)", Checks.NO_SUCH, x -> x.divide(0, -1, 3, 3));
        Checks.refused("divide(0, 1, 6, 3)", Checks.NO_SUCH, x -> x.divide(0, 1, 6, 3));
        Checks.refused("divide(0, 1, 3, 6)", Checks.NO_SUCH, x -> x.divide(0, 1, 3, 6));
        Checks.refused("divide(0, 2, 6, 6)", Checks.NO_SUCH, x -> x.divide(0, 2, 6, 6));
        Checks.refused("divide(0, 2, -1, -1)", Checks.NO_SUCH, x -> x.divide(0, 2, -1, -1));
        Checks.refused("divide(0, 1, 3, 3)", Checks.BAD_VALUE, x -> x.divide(0, 1, 3, 3));
        // An error comes before NONE, which a row that is all 0 would give.
        Checks.refused("divide(1, 2, 3, 3)", Checks.BAD_VALUE, x -> x.divide(1, 2, 3, 3));
        Checks.refused("divide(1, 1, 3, 4)", Checks.NOT_POSSIBLE, x -> x.divide(1, 1, 3, 4));
    }

    // ---- promise 10: divisor

    private static void promise10Registers() {
        for (int none : NO_REGISTERS) {
            Checks.refused("divisor(" + none + ", 2, 3)", Checks.NO_SUCH, x -> x.divisor(none, 2, 3));
            Checks.refused("divisor(0, " + none + ", 3)", Checks.NO_SUCH, x -> x.divisor(0, none, 3));
            Checks.refused("divisor(0, 2, " + none + ")", Checks.NO_SUCH, x -> x.divisor(0, 2, none));
        }
        for (int register = 0; register < 6; register++) {
            int to = register;
            Checks.changed(Checks::full, "divisor(3, 3, " + to + ")", 1, x -> x.divisor(3, 3, to), to, 0, 1);
        }
        Checks.due("divisor(5, 5, 0)", Checks.full().divisor(5, 5, 0), 4);
    }

    /** One row all 0: the other one divides both, on both sides. */
    private static void promise10OneRowAll0() {
        Checks.changed(Checks::full, "divisor(0, 1, 5)", 2, x -> x.divisor(0, 1, 5), 5, 86, 172, 1);
        Checks.changed(Checks::full, "divisor(1, 0, 5)", 2, x -> x.divisor(1, 0, 5), 5, 86, 172, 1);
        Checks.changed(Checks::full, "divisor(1, 2, 5)", 0, x -> x.divisor(1, 2, 5), 5, 1);
        Checks.changed(Checks::full, "divisor(2, 1, 5)", 0, x -> x.divisor(2, 1, 5), 5, 1);
        Checks.changed(Checks::full, "divisor(3, 1, 1)", 1, x -> x.divisor(3, 1, 1), 1, 0, 1);
        Checks.changed(Checks::full, "divisor(1, 3, 3)", 1, x -> x.divisor(1, 3, 3), 3, 0, 1);
    }

    /** "NOT_POSSIBLE if both rows are all 0", of whatever lengths. */
    private static void promise10BothRowsAll0() {
        Checks.refused("divisor(1, 1, 0)", Checks.NOT_POSSIBLE, x -> x.divisor(1, 1, 0));
        Checks.leaves(Counted::new, "divisor(0, 1, 2)", Checks.NOT_POSSIBLE, x -> x.divisor(0, 1, 2));
        Checks.Maker maker = () -> {
            Counted x = new Counted();
            x.round(0, 0, 64, 1);
            return x;
        };
        Checks.leaves(maker, "divisor(0, 1, 2)", Checks.NOT_POSSIBLE, x -> x.divisor(0, 1, 2));
        Checks.leaves(maker, "divisor(1, 0, 2)", Checks.NOT_POSSIBLE, x -> x.divisor(1, 0, 2));
        Checks.leaves(maker, "divisor(1, 1, 1)", Checks.NOT_POSSIBLE, x -> x.divisor(1, 1, 1));
    }

    /** "with 1 at its degree": of rows whose last numbers are 1, 2 and 256. */
    private static void promise10With1AtItsDegree() {
        Checks.Maker maker = () -> Checks.withRows(Checks.row(5, 1), Checks.row(10, 2), Checks.row(252, 256),
                Checks.row(256), Checks.row(1));
        for (int register = 0; register < 3; register++) {
            for (int second = 0; second < 3; second++) {
                int one = register;
                int other = second;
                Checks.changed(maker, "divisor(" + one + ", " + other + ", 5)", 1, x -> x.divisor(one, other, 5), 5, 5, 1);
            }
            int one = register;
            Checks.changed(maker, "divisor(" + one + ", 3, 5)", 0, x -> x.divisor(one, 3, 5), 5, 1);
            Checks.changed(maker, "divisor(4, " + one + ", 5)", 0, x -> x.divisor(4, one, 5), 5, 1);
        }
        Checks.changed(maker, "divisor(3, 3, 5)", 0, x -> x.divisor(3, 3, 5), 5, 1);
        Checks.changed(maker, "divisor(3, 4, 3)", 0, x -> x.divisor(3, 4, 3), 3, 1);
    }

    /** "its length is its degree and 1": numbers that are 0 at the ends of the two rows are gone. */
    private static void promise10LengthIsItsDegreeAnd1() {
        Checks.Maker maker = () -> Checks.withRows(Checks.row(6, 5, 1, 0, 0, 0), Checks.row(2, 1, 0, 0),
                Checks.row(0, 0, 0, 0, 0), Checks.row(9, 0, 0));
        Checks.changed(maker, "divisor(0, 1, 4)", 1, x -> x.divisor(0, 1, 4), 4, 2, 1);
        Checks.changed(maker, "divisor(1, 0, 0)", 1, x -> x.divisor(1, 0, 0), 0, 2, 1);
        Checks.changed(maker, "divisor(0, 0, 4)", 2, x -> x.divisor(0, 0, 4), 4, 6, 5, 1);
        Checks.changed(maker, "divisor(0, 2, 4)", 2, x -> x.divisor(0, 2, 4), 4, 6, 5, 1);
        Checks.changed(maker, "divisor(2, 0, 4)", 2, x -> x.divisor(2, 0, 4), 4, 6, 5, 1);
        Checks.changed(maker, "divisor(0, 3, 4)", 0, x -> x.divisor(0, 3, 4), 4, 1);
        Checks.changed(maker, "divisor(3, 2, 4)", 0, x -> x.divisor(3, 2, 4), 4, 1);
        Checks.changed(maker, "divisor(2, 3, 2)", 0, x -> x.divisor(2, 3, 2), 2, 1);
    }

    private static void promise10LongestRows() {
        Counted x = Checks.withRows(Checks.all(64, 9));
        int[] ones = Checks.all(64, 1);
        Checks.due("divisor(0, 0, 1) of 64", x.divisor(0, 0, 1), 63);
        Checks.dueRow("divisor(0, 0, 1) of 64", x, 1, ones);
        Checks.due("divisor(0, 5, 2) of 64", x.divisor(0, 5, 2), 63);
        Checks.due("divisor(5, 0, 3) of 64", x.divisor(5, 0, 3), 63);
        Checks.dueRow("divisor(5, 0, 3) of 64", x, 3, ones);
        Checks.due("set(0, 0, 8)", x.set(0, 0, 8), 64);
        Checks.due("divisor(0, 1, 4) of 64", x.divisor(0, 1, 4), 0);
        Checks.dueRow("divisor(0, 1, 4) of 64", x, 4, 1);
    }

    private static void promise10IntoRowsItIsMadeOf() {
        Checks.Maker maker = () -> Checks.withRows(Checks.row(6, 5, 1), Checks.row(8, 6, 1));
        for (int to = 0; to < 3; to++) {
            int register = to;
            Checks.changed(maker, "divisor(0, 1, " + to + ")", 1, x -> x.divisor(0, 1, register), to, 2, 1);
            Checks.changed(maker, "divisor(1, 0, " + to + ")", 1, x -> x.divisor(1, 0, register), to, 2, 1);
        }
        Checks.changed(maker, "divisor(0, 0, 0)", 2, x -> x.divisor(0, 0, 0), 0, 6, 5, 1);
    }

    private static void promise10FirstErrorFirst() {
        Checks.refused("divisor(1, 1, 6)", Checks.NO_SUCH, x -> x.divisor(1, 1, 6));
        Checks.refused("divisor(6, 1, 0)", Checks.NO_SUCH, x -> x.divisor(6, 1, 0));
        Checks.refused("divisor(1, -1, 0)", Checks.NO_SUCH, x -> x.divisor(1, -1, 0));
    }
}
