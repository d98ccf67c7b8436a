/** The boundary cases of the promises 7 and 8, and of what the document's terms say of powers and inverses. */
final class PowersBoundariesTest {
    private static final int LEAST = Integer.MIN_VALUE;
    private static final int GREATEST = Integer.MAX_VALUE;
    private static final int[] NO_REGISTERS = {-1, 6, 7, LEAST, GREATEST};

    public static void main(String[] args) {
        promise7Registers();
        promise7Powers();
        promise7Power0IsTheRow1();
        promise7LongerThan64();
        promise7IntoTheRowItIsMadeOf();
        promise7FirstErrorFirst();
        promise8Registers();
        promise8Lengths();
        promise8AnswersTheDegree();
        promise8Number0AtThePlace0();
        promise8InversesOfNumbers();
        promise8IntoTheRowItIsMadeOf();
        promise8FirstErrorFirst();
        Checks.end();
    }

    // ---- promise 7: power

    private static void promise7Registers() {
        for (int none : NO_REGISTERS) {
            Checks.refused("power(" + none + ", 1, 2)", Checks.NO_SUCH, x -> x.power(none, 1, 2));
            Checks.refused("power(" + none + ", 0, 2)", Checks.NO_SUCH, x -> x.power(none, 0, 2));
            Checks.refused("power(0, 1, " + none + ")", Checks.NO_SUCH, x -> x.power(0, 1, none));
        }
        for (int register = 0; register < 6; register++) {
            int to = register;
            Checks.changed(Checks::full, "power(2, 2, " + to + ")", 1, x -> x.power(2, 2, to), to, 25);
        }
        Checks.due("power(5, 1, 0)", Checks.full().power(5, 1, 0), Checks.LENGTH_5);
    }

    /** "power: 0 to 9". */
    private static void promise7Powers() {
        for (int power : new int[] {-1, 10, 11, LEAST, GREATEST}) {
            Checks.refused("power(2, " + power + ", 0)", Checks.BAD_VALUE, x -> x.power(2, power, 0));
        }
        Checks.changed(Checks::full, "power(2, 0, 0)", 1, x -> x.power(2, 0, 0), 0, 1);
        Checks.changed(Checks::full, "power(2, 1, 0)", 1, x -> x.power(2, 1, 0), 0, 5);
        Checks.changed(Checks::full, "power(2, 9, 0)", 1, x -> x.power(2, 9, 0), 0, 1953125 % 257);
        Checks.changed(Checks::full, "power(0, 1, 3)", 3, x -> x.power(0, 1, 3), 3, 1, 2, 3);
        Checks.changed(Checks::full, "power(1, 1, 3)", 2, x -> x.power(1, 1, 3), 3, 0, 0);
        Checks.changed(Checks::full, "power(1, 2, 3)", 3, x -> x.power(1, 2, 3), 3, 0, 0, 0);
        Checks.changed(Checks::full, "power(3, 9, 0)", 10, x -> x.power(3, 9, 0), 0,
                0, 0, 0, 0, 0, 0, 0, 0, 0, 262144 % 257);
    }

    /** "the row 1 for 0": of rows that are all 0, and of the longest ones, too. */
    private static void promise7Power0IsTheRow1() {
        Checks.changed(Checks::full, "power(0, 0, 3)", 1, x -> x.power(0, 0, 3), 3, 1);
        Checks.changed(Checks::full, "power(1, 0, 1)", 1, x -> x.power(1, 0, 1), 1, 1);
        Checks.changed(Checks::full, "power(3, 0, 5)", 1, x -> x.power(3, 0, 5), 5, 1);
        Checks.changed(Checks::full, "power(4, 0, 4)", 1, x -> x.power(4, 0, 4), 4, 1);
        Checks.changed(Counted::new, "power(0, 0, 0)", 1, x -> x.power(0, 0, 0), 0, 1);
        Checks.changed(Counted::new, "power(0, 1, 0)", 1, x -> x.power(0, 1, 0), 0, 0);
        Checks.changed(Counted::new, "power(0, 9, 0)", 1, x -> x.power(0, 9, 0), 0, 0);
    }

    /** "TOO_MANY if it would be longer than 64": the longest row of each power, and one that is longer by one. */
    private static void promise7LongerThan64() {
        int[] longest = {0, 64, 32, 22, 16, 13, 11, 10, 8, 8};
        for (int power = 2; power <= 9; power++) {
            duePowerLength(longest[power], power, power * (longest[power] - 1) + 1);
            duePowerLength(longest[power] + 1, power, Checks.TOO_MANY);
        }
        duePowerLength(64, 1, 64);
        duePowerLength(64, 0, 1);
        duePowerLength(64, 2, Checks.TOO_MANY);
        duePowerLength(64, 9, Checks.TOO_MANY);
        Checks.refused("power(4, 2, 4)", Checks.TOO_MANY, x -> x.power(4, 2, 4));
        Checks.refused("power(5, 2, 0)", Checks.TOO_MANY, x -> x.power(5, 2, 0));
    }

    /** Of a row that is all 0, whose length counts nevertheless, and of one with 1 at its end. */
    private static void duePowerLength(int length, int power, int want) {
        Counted x = new Counted();
        x.round(0, 0, length, 1);
        String call = "power of " + length + " by " + power;
        Checks.due(call + ", all 0", x.power(1, power, 2), want);
        Checks.due(call + ", all 0: its length", x.of(2, 0), Math.max(want, 1));
        x.set(1, length - 1, 1);
        Checks.due(call, x.power(1, power, 3), want);
        Checks.due(call + ": its degree", x.of(3, 1), want < 0 ? Checks.NONE : want - 1);
        Checks.due(call + ": its row is still there", x.of(1, 1), length - 1);
    }

    private static void promise7IntoTheRowItIsMadeOf() {
        Checks.changed(Checks::full, "power(0, 1, 0)", 3, x -> x.power(0, 1, 0), 0, 1, 2, 3);
        Checks.changed(Checks::full, "power(0, 2, 0)", 5, x -> x.power(0, 2, 0), 0, 1, 4, 10, 12, 9);
        Checks.changed(Checks::full, "power(3, 3, 3)", 4, x -> x.power(3, 3, 3), 3, 0, 0, 0, 64);
    }

    private static void promise7FirstErrorFirst() {
        Checks.refused("power(6, 10, 0)", Checks.NO_SUCH, x -> x.power(6, 10, 0));
        Checks.refused("power(0, -1, 6)", Checks.NO_SUCH, x -> x.power(0, -1, 6));
        Checks.refused("power(4, 2, -1)", Checks.NO_SUCH, x -> x.power(4, 2, -1));
        Checks.refused("power(4, 10, 0)", Checks.BAD_VALUE, x -> x.power(4, 10, 0));
        Checks.refused("power(4, -1, 0)", Checks.BAD_VALUE, x -> x.power(4, -1, 0));
        Checks.refused("power(4, GREATEST, 0)", Checks.BAD_VALUE, x -> x.power(4, GREATEST, 0));
    }

    // ---- promise 8: inverse

    private static void promise8Registers() {
        for (int none : NO_REGISTERS) {
            Checks.refused("inverse(" + none + ", 2, 2)", Checks.NO_SUCH, x -> x.inverse(none, 2, 2));
            Checks.refused("inverse(0, 2, " + none + ")", Checks.NO_SUCH, x -> x.inverse(0, 2, none));
        }
        for (int register = 0; register < 6; register++) {
            int to = register;
            Checks.changed(Checks::full, "inverse(0, 2, " + to + ")", 1, x -> x.inverse(0, 2, to), to, 1, 255);
        }
        Checks.changed(Checks::full, "inverse(5, 2, 0)", 1, x -> x.inverse(5, 2, 0), 0, 1, 239);
    }

    /** "many: 1 to 64, its length": less than the row's length, as much, and more. */
    private static void promise8Lengths() {
        for (int many : new int[] {0, -1, 65, 128, LEAST, GREATEST}) {
            Checks.refused("inverse(0, " + many + ", 2)", Checks.BAD_VALUE, x -> x.inverse(0, many, 2));
        }
        Checks.changed(Checks::full, "inverse(0, 1, 2)", 0, x -> x.inverse(0, 1, 2), 2, 1);
        Checks.changed(Checks::full, "inverse(0, 2, 2)", 1, x -> x.inverse(0, 2, 2), 2, 1, 255);
        Checks.changed(Checks::full, "inverse(0, 3, 2)", 2, x -> x.inverse(0, 3, 2), 2, 1, 255, 1);
        Checks.changed(Checks::full, "inverse(0, 4, 2)", 3, x -> x.inverse(0, 4, 2), 2, 1, 255, 1, 4);
        Checks.changed(Checks::full, "inverse(2, 1, 0)", 0, x -> x.inverse(2, 1, 0), 0, 103);
        Checks.changed(Checks::full, "inverse(2, 2, 0)", 0, x -> x.inverse(2, 2, 0), 0, 103, 0);
        Checks.changed(Checks::full, "inverse(4, 1, 0)", 0, x -> x.inverse(4, 1, 0), 0, 1);
        int[] alternating = new int[64];
        for (int k = 0; k < 64; k++) {
            alternating[k] = k % 2 == 0 ? 1 : 256;
        }
        Checks.Maker maker = () -> Checks.withRows(Checks.row(1, 1));
        Checks.changed(maker, "inverse(0, 64, 1)", 63, x -> x.inverse(0, 64, 1), 1, alternating);
        Checks.changed(maker, "inverse(0, 63, 1)", 62, x -> x.inverse(0, 63, 1), 1,
                java.util.Arrays.copyOf(alternating, 63));
    }

    /** "Returns its degree", which is not its length less 1 where numbers at its end are 0. */
    private static void promise8AnswersTheDegree() {
        Checks.Maker maker = () -> Checks.withRows(Checks.row(1, 0, 0, 256), Checks.row(1, 0, 0, 0, 0));
        Checks.changed(maker, "inverse(0, 3, 2)", 0, x -> x.inverse(0, 3, 2), 2, 1, 0, 0);
        Checks.changed(maker, "inverse(0, 4, 2)", 3, x -> x.inverse(0, 4, 2), 2, 1, 0, 0, 1);
        Checks.changed(maker, "inverse(0, 6, 2)", 3, x -> x.inverse(0, 6, 2), 2, 1, 0, 0, 1, 0, 0);
        Checks.changed(maker, "inverse(0, 7, 2)", 6, x -> x.inverse(0, 7, 2), 2, 1, 0, 0, 1, 0, 0, 1);
        Checks.changed(maker, "inverse(1, 3, 2)", 0, x -> x.inverse(1, 3, 2), 2, 1, 0, 0);
    }

    /** "NOT_POSSIBLE if the number at the place 0 is 0"; it is possible from 1 to 256. */
    private static void promise8Number0AtThePlace0() {
        Checks.refused("inverse(3, 1, 2)", Checks.NOT_POSSIBLE, x -> x.inverse(3, 1, 2));
        Checks.refused("inverse(3, 64, 2)", Checks.NOT_POSSIBLE, x -> x.inverse(3, 64, 2));
        Checks.refused("inverse(1, 1, 2)", Checks.NOT_POSSIBLE, x -> x.inverse(1, 1, 2));
        Checks.leaves(Counted::new, "inverse(0, 1, 0)", Checks.NOT_POSSIBLE, x -> x.inverse(0, 1, 0));
        Checks.Maker maker = () -> Checks.withRows(Checks.row(1, 0), Checks.row(256, 0), Checks.row(0, 1));
        Checks.changed(maker, "inverse(0, 2, 3)", 0, x -> x.inverse(0, 2, 3), 3, 1, 0);
        Checks.changed(maker, "inverse(1, 2, 3)", 0, x -> x.inverse(1, 2, 3), 3, 256, 0);
        Checks.leaves(maker, "inverse(2, 2, 3)", Checks.NOT_POSSIBLE, x -> x.inverse(2, 2, 3));
    }

    /** "The inverse of a number a that is not 0 is the number that gives 1 with a." */
    private static void promise8InversesOfNumbers() {
        int[][] pairs = {{1, 1}, {2, 129}, {3, 86}, {16, 241}, {128, 255}, {129, 2}, {255, 128}, {256, 256}};
        for (int[] pair : pairs) {
            Counted x = Checks.withRows(Checks.row(pair[0]));
            Checks.due("inverse of " + pair[0], x.inverse(0, 1, 1), 0);
            Checks.dueRow("inverse of " + pair[0], x, 1, pair[1]);
        }
    }

    private static void promise8IntoTheRowItIsMadeOf() {
        Checks.changed(Checks::full, "inverse(0, 4, 0)", 3, x -> x.inverse(0, 4, 0), 0, 1, 255, 1, 4);
        Checks.changed(Checks::full, "inverse(4, 5, 4)", 2, x -> x.inverse(4, 5, 4), 4, 1, 9, 3, 0, 0);
    }

    private static void promise8FirstErrorFirst() {
        Checks.refused("inverse(6, 0, 0)", Checks.NO_SUCH, x -> x.inverse(6, 0, 0));
        Checks.refused("inverse(0, 65, 6)", Checks.NO_SUCH, x -> x.inverse(0, 65, 6));
        Checks.refused("inverse(3, 1, -1)", Checks.NO_SUCH, x -> x.inverse(3, 1, -1));
        Checks.refused("inverse(3, 0, 2)", Checks.BAD_VALUE, x -> x.inverse(3, 0, 2));
        Checks.refused("inverse(1, 65, 2)", Checks.BAD_VALUE, x -> x.inverse(1, 65, 2));
    }
}
