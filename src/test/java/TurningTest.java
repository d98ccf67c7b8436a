/** Promises 11, 12 and 16: rows that are turned, and turned back, and the turning points. */
final class TurningTest {
    private static final int[] SIZES = {1, 2, 4, 8, 16, 32, 64};
    private static final int[] POINTS = {1, 256, 241, 64, 249, 136, 81};

    public static void main(String[] args) {
        promise11Turn();
        promise11TurnErrors();
        promise12TurnBack();
        promise12TurnBackErrors();
        promise16TurningPoint();
        promise16TurningPointErrors();
        Checks.end();
    }

    private static void promise11Turn() {
        Counted x = Checks.withRows(Checks.row(1, 2, 3), Checks.row(256, 0, 1), Checks.row(0, 0), Checks.row(5));
        Checks.changes(x, "turn(0, 4, 5)", 0, () -> x.turn(0, 4, 5));
        Checks.dueRow("turn(0, 4, 5)", x, 5, 6, 223, 2, 30);
        Checks.changes(x, "turn(1, 4, 5)", 2, () -> x.turn(1, 4, 5));
        Checks.dueRow("turn(1, 4, 5)", x, 5, 0, 255, 0, 255);
        Checks.changes(x, "turn(2, 2, 5)", 2, () -> x.turn(2, 2, 5));
        Checks.dueRow("turn(2, 2, 5)", x, 5, 0, 0);
        Checks.changes(x, "turn(3, 1, 5)", 0, () -> x.turn(3, 1, 5));
        Checks.dueRow("turn(3, 1, 5)", x, 5, 5);
        Checks.changes(x, "turn(3, 64, 5)", 0, () -> x.turn(3, 64, 5));
        Checks.dueRow("turn(3, 64, 5)", x, 5, Checks.all(64, 5));
        Checks.due("turn(0, 4, 0)", x.turn(0, 4, 0), 0);
        Checks.dueRow("turn(0, 4, 0)", x, 0, 6, 223, 2, 30);
        for (int i = 1; i < SIZES.length; i++) {
            Counted y = Checks.withRows(Checks.row(0, 1));
            Checks.due("turn(0, " + SIZES[i] + ", 1) of x", y.turn(0, SIZES[i], 1), 0);
            int[] powers = Checks.all(SIZES[i], 1);
            for (int k = 1; k < powers.length; k++) {
                powers[k] = powers[k - 1] * POINTS[i] % 257;
            }
            Checks.dueRow("turn(0, " + SIZES[i] + ", 1) of x", y, 1, powers);
        }
    }

    private static void promise11TurnErrors() {
        Counted x = Checks.withRows(Checks.row(1, 2, 0));
        Checks.unchanged(x, "turn(6, 4, 0)", Checks.NO_SUCH, () -> x.turn(6, 4, 0));
        Checks.unchanged(x, "turn(0, 3, 6)", Checks.NO_SUCH, () -> x.turn(0, 3, 6));
        for (int size : new int[] {0, -1, 3, 5, 6, 63, 65, 128, 256, -64, Integer.MIN_VALUE, Integer.MAX_VALUE}) {
            Counted y = Checks.withRows(Checks.row(1, 2, 0));
            Checks.unchanged(y, "turn(0, " + size + ", 1)", Checks.BAD_VALUE, () -> y.turn(0, size, 1));
        }
        Checks.unchanged(x, "turn(0, 2, 1)", Checks.NOT_POSSIBLE, () -> x.turn(0, 2, 1));
        Checks.unchanged(x, "turn(0, 1, 1)", Checks.NOT_POSSIBLE, () -> x.turn(0, 1, 1));
        Checks.due("turn(0, 4, 1)", x.turn(0, 4, 1), 0);
    }

    private static void promise12TurnBack() {
        Counted x = Checks.withRows(Checks.row(6, 223, 2, 30), Checks.row(0, 0), Checks.row(9), Checks.all(64, 7));
        Checks.changes(x, "turnBack(0, 4)", 2, () -> x.turnBack(0, 4));
        Checks.dueRow("turnBack(0, 4)", x, 4, 1, 2, 3, 0);
        Checks.changes(x, "turnBack(1, 4)", Checks.NONE, () -> x.turnBack(1, 4));
        Checks.dueRow("turnBack(1, 4)", x, 4, 0, 0);
        Checks.changes(x, "turnBack(2, 4)", 0, () -> x.turnBack(2, 4));
        Checks.dueRow("turnBack(2, 4)", x, 4, 9);
        Checks.changes(x, "turnBack(3, 4)", 0, () -> x.turnBack(3, 4));
        Checks.due("its number 0", x.number(4, 0), 7);
        Checks.due("its length", x.of(4, 0), 64);
        Checks.due("turnBack(0, 0)", x.turnBack(0, 0), 2);
        Checks.dueRow("turnBack(0, 0)", x, 0, 1, 2, 3, 0);
        for (int size : SIZES) {
            int[] row = new int[size];
            for (int k = 0; k < size; k++) {
                row[k] = (k * k + 31 * k + 256) % 257;
            }
            row[size - 1] = 1;
            Counted y = Checks.withRows(row);
            y.turn(0, size, 1);
            Checks.due("turnBack(1, 2) of " + size, y.turnBack(1, 2), size - 1);
            Checks.dueRow("turnBack(1, 2) of " + size, y, 2, row);
        }
    }

    private static void promise12TurnBackErrors() {
        Counted x = Checks.withRows(Checks.row(1, 2, 0), Checks.all(63, 0), Checks.row(1));
        Checks.unchanged(x, "turnBack(6, 0)", Checks.NO_SUCH, () -> x.turnBack(6, 0));
        Checks.unchanged(x, "turnBack(0, 6)", Checks.NO_SUCH, () -> x.turnBack(0, 6));
        Checks.unchanged(x, "turnBack(-1, 0)", Checks.NO_SUCH, () -> x.turnBack(-1, 0));
        Checks.unchanged(x, "turnBack(0, 3)", Checks.NOT_POSSIBLE, () -> x.turnBack(0, 3));
        Checks.unchanged(x, "turnBack(1, 3)", Checks.NOT_POSSIBLE, () -> x.turnBack(1, 3));
    }

    private static void promise16TurningPoint() {
        Counted x = new Counted();
        for (int i = 0; i < SIZES.length; i++) {
            Checks.unchanged(x, "turningPoint(" + SIZES[i] + ", 1)", POINTS[i], at(x, SIZES[i], 1));
            Checks.due("turningPoint(" + SIZES[i] + ", 0)", x.turningPoint(SIZES[i], 0), 1);
            Checks.due("turningPoint(" + SIZES[i] + ", itself)", x.turningPoint(SIZES[i], SIZES[i]), 1);
            if (SIZES[i] > 1) {
                Checks.due("turningPoint(" + SIZES[i] + ", half)", x.turningPoint(SIZES[i], SIZES[i] / 2), 256);
            }
        }
        Checks.due("turningPoint(64, 2)", x.turningPoint(64, 2), 136);
        Checks.due("turningPoint(64, 63)", x.turningPoint(64, 63), 165);
        Checks.due("turningPoint(64, 1000)", x.turningPoint(64, 1000), 193);
        Checks.due("turningPoint(2, 1000)", x.turningPoint(2, 1000), 1);
        Checks.due("turningPoint(2, 999)", x.turningPoint(2, 999), 256);
    }

    private static java.util.function.LongSupplier at(Counted x, int size, int power) {
        return () -> x.turningPoint(size, power);
    }

    private static void promise16TurningPointErrors() {
        Counted x = new Counted();
        for (int size : new int[] {0, -1, 3, 63, 65, 128, 256, Integer.MIN_VALUE, Integer.MAX_VALUE}) {
            Checks.unchanged(x, "turningPoint(" + size + ", 1)", Checks.BAD_VALUE, at(x, size, 1));
        }
        Checks.unchanged(x, "turningPoint(64, -1)", Checks.BAD_VALUE, at(x, 64, -1));
        Checks.unchanged(x, "turningPoint(64, 1001)", Checks.BAD_VALUE, at(x, 64, 1001));
    }
}
