import java.util.ArrayList;
import java.util.List;

/** The boundary cases of the promises 11, 12 and 16, and of what the document's terms say of turning. */
final class TurningBoundariesTest {
    private static final int LEAST = Integer.MIN_VALUE;
    private static final int GREATEST = Integer.MAX_VALUE;
    private static final int[] NO_REGISTERS = {-1, 6, 7, LEAST, GREATEST};
    private static final List<Integer> SIZES = List.of(1, 2, 4, 8, 16, 32, 64);
    private static final List<Integer> POINTS = List.of(1, 256, 241, 64, 249, 136, 81);

    public static void main(String[] args) {
        promise11Registers();
        promise11Sizes();
        promise11RowOfTheSizeAndLonger();
        promise11ShorterRows();
        promise11AllPowersBelowTheSize();
        promise11HowManyAre0();
        promise11IntoTheRowItIsMadeOf();
        promise11FirstErrorFirst();
        promise12Registers();
        promise12LengthsThatAreSizes();
        promise12LengthsThatAreNone();
        promise12AnswersTheDegree();
        promise12GivesItWhenItIsTurned();
        promise12IntoTheRowItIsMadeOf();
        promise12FirstErrorFirst();
        promise16Sizes();
        promise16Powers();
        promise16PointsOfAllSizes();
        Checks.end();
    }

    /** Numbers that are no size: all others near the sizes, the powers of 2 above 64, and the ends of the range. */
    private static List<Integer> noSizes() {
        List<Integer> numbers = new ArrayList<>(List.of(LEAST, GREATEST, -64));
        for (int number = -3; number <= 130; number++) {
            if (!SIZES.contains(number)) {
                numbers.add(number);
            }
        }
        for (int bit = 8; bit < 31; bit++) {
            numbers.add(1 << bit);
        }
        return numbers;
    }

    // ---- promise 11: turn

    private static void promise11Registers() {
        for (int none : NO_REGISTERS) {
            Checks.refused("turn(" + none + ", 4, 2)", Checks.NO_SUCH, x -> x.turn(none, 4, 2));
            Checks.refused("turn(0, 4, " + none + ")", Checks.NO_SUCH, x -> x.turn(0, 4, none));
        }
        for (int register = 0; register < 6; register++) {
            int to = register;
            Checks.changed(Checks::full, "turn(3, 2, " + to + ")", 0, x -> x.turn(3, 2, to), to, 4, 253);
        }
        Checks.due("turn(5, 64, 0)", Checks.full().turn(5, 64, 0), 0);
    }

    /** "A size is 1, 2, 4, 8, 16, 32 or 64." */
    private static void promise11Sizes() {
        for (int size : noSizes()) {
            Counted x = Checks.withRows(Checks.row(5));
            Checks.due("turn(0, " + size + ", 1)", x.turn(0, size, 1), Checks.BAD_VALUE);
            Checks.dueRow("turn(0, " + size + ", 1)", x, 1, 0);
        }
        for (int size : new int[] {0, -1, 3, 63, 65, 128, LEAST, GREATEST}) {
            Checks.refused("turn(2, " + size + ", 0)", Checks.BAD_VALUE, x -> x.turn(2, size, 0));
        }
        for (int size : SIZES) {
            Checks.changed(Checks::full, "turn(2, " + size + ", 0)", 0, x -> x.turn(2, size, 0), 0, Checks.all(size, 5));
        }
    }

    /** "its length is at most the size", "NOT_POSSIBLE if the row is longer": also if only by numbers that are 0. */
    private static void promise11RowOfTheSizeAndLonger() {
        for (int size : SIZES) {
            Counted x = new Counted();
            x.round(0, 0, size, 1);
            Checks.due("turn of the length " + size, x.turn(1, size, 2), size);
            Checks.due("turn of the length " + size + ": its length", x.of(2, 0), size);
            if (size < 64) {
                x.set(1, size, 0);
                Checks.due("turn of the length " + (size + 1), x.turn(1, size, 3), Checks.NOT_POSSIBLE);
                Checks.dueRow("turn of the length " + (size + 1), x, 3, 0);
                Checks.due("turn of the length " + (size + 1) + " by more", x.turn(1, 2 * size, 3), 2 * size);
            }
        }
        Checks.refused("turn(0, 2, 3)", Checks.NOT_POSSIBLE, x -> x.turn(0, 2, 3));
        Checks.refused("turn(0, 1, 3)", Checks.NOT_POSSIBLE, x -> x.turn(0, 1, 3));
        Checks.refused("turn(1, 1, 3)", Checks.NOT_POSSIBLE, x -> x.turn(1, 1, 3));
        Checks.refused("turn(4, 32, 4)", Checks.NOT_POSSIBLE, x -> x.turn(4, 32, 4));
        Checks.refused("turn(5, 32, 4)", Checks.NOT_POSSIBLE, x -> x.turn(5, 32, 4));
    }

    /** Nothing stands at the places from the row's end to the size. */
    private static void promise11ShorterRows() {
        Checks.changed(Checks::full, "turn(3, 4, 2)", 0, x -> x.turn(3, 4, 2), 2, 4, 193, 253, 64);
        Checks.changed(Checks::full, "turn(0, 4, 2)", 0, x -> x.turn(0, 4, 2), 2, 6, 223, 2, 30);
        Checks.changed(Checks::full, "turn(1, 4, 2)", 4, x -> x.turn(1, 4, 2), 2, 0, 0, 0, 0);
        Checks.changed(Checks::full, "turn(1, 2, 2)", 2, x -> x.turn(1, 2, 2), 2, 0, 0);
        Checks.changed(Checks::full, "turn(2, 1, 0)", 0, x -> x.turn(2, 1, 0), 0, 5);
    }

    /** "whose number at the place k, less than the size, is the value of the row at the power k". */
    private static void promise11AllPowersBelowTheSize() {
        for (int size : new int[] {4, 8, 16, 32, 64}) {
            Counted x = Checks.withRows(Checks.row(3, 200, 256));
            x.turn(0, size, 1);
            Checks.due("turn(0, " + size + ", 1): its length", x.of(1, 0), size);
            for (int k = 0; k < size; k++) {
                Checks.due("turn(0, " + size + ", 1): at " + k, x.number(1, k), x.value(0, x.turningPoint(size, k)));
            }
        }
        Checks.changed(Checks::full, "turn(3, 2, 0)", 0, x -> x.turn(3, 2, 0), 0, 4, 253);
        Checks.changed(Checks::full, "turn(2, 1, 0)", 0, x -> x.turn(2, 1, 0), 0, 5);
    }

    /** "Returns how many of its numbers are 0": none, one, all but one, all. */
    private static void promise11HowManyAre0() {
        Checks.Maker maker = () -> Checks.withRows(Checks.row(256, 1), Checks.row(1, 1), Checks.row(1, 1, 1, 1),
                Checks.row(2, 1), Checks.row(1, 0, 256, 0));
        Checks.changed(maker, "turn(0, 4, 5)", 1, x -> x.turn(0, 4, 5), 5, 0, 240, 255, 15);
        Checks.changed(maker, "turn(1, 4, 5)", 1, x -> x.turn(1, 4, 5), 5, 2, 242, 0, 17);
        Checks.changed(maker, "turn(2, 4, 5)", 3, x -> x.turn(2, 4, 5), 5, 4, 0, 0, 0);
        Checks.changed(maker, "turn(3, 2, 5)", 0, x -> x.turn(3, 2, 5), 5, 3, 1);
        Checks.changed(maker, "turn(4, 4, 5)", 2, x -> x.turn(4, 4, 5), 5, 0, 2, 0, 2);
        Checks.changed(maker, "turn(5, 64, 0)", 64, x -> x.turn(5, 64, 0), 0, Checks.all(64, 0));
        Checks.changed(Counted::new, "turn(0, 1, 0)", 1, x -> x.turn(0, 1, 0), 0, 0);
    }

    private static void promise11IntoTheRowItIsMadeOf() {
        Checks.changed(Checks::full, "turn(0, 4, 0)", 0, x -> x.turn(0, 4, 0), 0, 6, 223, 2, 30);
        Checks.changed(Checks::full, "turn(2, 8, 2)", 0, x -> x.turn(2, 8, 2), 2, Checks.all(8, 5));
        Checks.changed(Checks::full, "turn(2, 1, 2)", 0, x -> x.turn(2, 1, 2), 2, 5);
    }

    private static void promise11FirstErrorFirst() {
        Checks.refused("turn(6, 3, 0)", Checks.NO_SUCH, x -> x.turn(6, 3, 0));
        Checks.refused("turn(0, 0, -1)", Checks.NO_SUCH, x -> x.turn(0, 0, -1));
        Checks.refused("turn(4, 2, 6)", Checks.NO_SUCH, x -> x.turn(4, 2, 6));
        Checks.refused("turn(4, 3, 0)", Checks.BAD_VALUE, x -> x.turn(4, 3, 0));
        Checks.refused("turn(4, 63, 0)", Checks.BAD_VALUE, x -> x.turn(4, 63, 0));
        Checks.refused("turn(0, -4, 0)", Checks.BAD_VALUE, x -> x.turn(0, -4, 0));
        Checks.refused("turn(0, 0, 0)", Checks.BAD_VALUE, x -> x.turn(0, 0, 0));
    }

    // ---- promise 12: turnBack

    private static void promise12Registers() {
        for (int none : NO_REGISTERS) {
            Checks.refused("turnBack(" + none + ", 2)", Checks.NO_SUCH, x -> x.turnBack(none, 2));
            Checks.refused("turnBack(2, " + none + ")", Checks.NO_SUCH, x -> x.turnBack(2, none));
        }
        for (int register = 0; register < 6; register++) {
            int to = register;
            Checks.changed(Checks::full, "turnBack(3, " + to + ")", 1, x -> x.turnBack(3, to), to, 2, 255);
        }
    }

    /** A row of the length 1 is itself; one of the same number everywhere is this number, of the same length. */
    private static void promise12LengthsThatAreSizes() {
        for (int size : SIZES) {
            int[] row = Checks.all(size, 0);
            row[0] = 7;
            Checks.changed(() -> Checks.withRows(Checks.all(size, 7)), "turnBack of " + size, 0, x -> x.turnBack(0, 1),
                    1, row);
        }
        Checks.changed(Checks::full, "turnBack(2, 0)", 0, x -> x.turnBack(2, 0), 0, 5);
    }

    /** "NOT_POSSIBLE if its length is no size": all other lengths. */
    private static void promise12LengthsThatAreNone() {
        for (int length = 1; length <= 64; length++) {
            Counted x = new Counted();
            x.round(0, 0, length, 1);
            x.set(1, 0, 1);
            boolean size = SIZES.contains(length);
            Checks.due("turnBack of the length " + length, x.turnBack(1, 2), size ? length - 1 : Checks.NOT_POSSIBLE);
            Checks.due("turnBack of the length " + length + ": its length", x.of(2, 0), size ? length : 1);
            Checks.due("turnBack of the length " + length + ": its number 0", x.number(2, 0) * length % 257,
                    size ? 1 : 0);
        }
        Checks.refused("turnBack(0, 2)", Checks.NOT_POSSIBLE, x -> x.turnBack(0, 2));
        Checks.refused("turnBack(0, 0)", Checks.NOT_POSSIBLE, x -> x.turnBack(0, 0));
        Checks.refused("turnBack(5, 2)", Checks.NOT_POSSIBLE, x -> x.turnBack(5, 2));
    }

    /** "Returns its degree (NONE)": NONE, 0, the last place, and one where the last numbers are 0. */
    private static void promise12AnswersTheDegree() {
        Checks.Maker maker = () -> Checks.withRows(Checks.row(0, 0), Checks.row(0), Checks.row(6, 223, 2, 30),
                Checks.row(1, 241, 256, 16), Checks.row(1, 16, 256, 241));
        Checks.changed(maker, "turnBack(0, 5)", Checks.NONE, x -> x.turnBack(0, 5), 5, 0, 0);
        Checks.changed(maker, "turnBack(1, 5)", Checks.NONE, x -> x.turnBack(1, 5), 5, 0);
        Checks.changed(maker, "turnBack(2, 5)", 2, x -> x.turnBack(2, 5), 5, 1, 2, 3, 0);
        Checks.changed(maker, "turnBack(3, 5)", 1, x -> x.turnBack(3, 5), 5, 0, 1, 0, 0);
        Checks.changed(maker, "turnBack(4, 5)", 3, x -> x.turnBack(4, 5), 5, 0, 0, 0, 1);
        Checks.Maker longest = () -> {
            Counted x = new Counted();
            x.round(0, 0, 64, 1);
            return x;
        };
        Checks.changed(longest, "turnBack of 64 that are 0", Checks.NONE, x -> x.turnBack(1, 0), 0, Checks.all(64, 0));
    }

    /** "the row of this length that gives it when it is turned by this size". */
    private static void promise12GivesItWhenItIsTurned() {
        for (int size : SIZES) {
            int[] row = new int[size];
            for (int k = 0; k < size; k++) {
                row[k] = (k * k * k + 100 * k + 256) % 257;
            }
            Counted x = Checks.withRows(row);
            x.turnBack(0, 1);
            Checks.due("turnBack of " + size + ": its length", x.of(1, 0), size);
            x.turn(1, size, 2);
            Checks.dueRow("turn of turnBack of " + size, x, 2, row);
            x.turn(0, size, 3);
            x.turnBack(3, 4);
            Checks.dueRow("turnBack of turn of " + size, x, 4, row);
        }
    }

    private static void promise12IntoTheRowItIsMadeOf() {
        Checks.changed(Checks::full, "turnBack(3, 3)", 1, x -> x.turnBack(3, 3), 3, 2, 255);
        Checks.changed(Checks::full, "turnBack(2, 2)", 0, x -> x.turnBack(2, 2), 2, 5);
    }

    private static void promise12FirstErrorFirst() {
        Checks.refused("turnBack(0, 6)", Checks.NO_SUCH, x -> x.turnBack(0, 6));
        Checks.refused("turnBack(0, -1)", Checks.NO_SUCH, x -> x.turnBack(0, -1));
        // An error comes before NONE, which a row that is all 0 would give.
        Checks.Maker maker = () -> Checks.withRows(Checks.row(0, 0, 0));
        Checks.leaves(maker, "turnBack(0, 1)", Checks.NOT_POSSIBLE, x -> x.turnBack(0, 1));
    }

    // ---- promise 16: turningPoint

    private static void promise16Sizes() {
        Counted x = new Counted();
        for (int size : noSizes()) {
            Checks.due("turningPoint(" + size + ", 1)", x.turningPoint(size, 1), Checks.BAD_VALUE);
            Checks.due("turningPoint(" + size + ", 0)", x.turningPoint(size, 0), Checks.BAD_VALUE);
        }
        Checks.refused("turningPoint(0, 1)", Checks.BAD_VALUE, y -> y.turningPoint(0, 1));
        Checks.refused("turningPoint(128, 1001)", Checks.BAD_VALUE, y -> y.turningPoint(128, 1001));
        Checks.asked("turningPoint(1, 1)", 1, y -> y.turningPoint(1, 1));
        Checks.asked("turningPoint(64, 1)", 81, y -> y.turningPoint(64, 1));
    }

    /** "power: 0 to 1000". */
    private static void promise16Powers() {
        int[] at1000 = {1, 1, 1, 1, 256, 241, 193};
        int[] at999 = {1, 256, 16, 253, 225, 15, 234};
        for (int i = 0; i < SIZES.size(); i++) {
            Counted x = new Counted();
            int size = SIZES.get(i);
            for (int power : new int[] {-1, 1001, 1002, -256, 1256, LEAST, GREATEST}) {
                Checks.due("turningPoint(" + size + ", " + power + ")", x.turningPoint(size, power), Checks.BAD_VALUE);
            }
            Checks.due("turningPoint(" + size + ", 0)", x.turningPoint(size, 0), 1);
            Checks.due("turningPoint(" + size + ", 999)", x.turningPoint(size, 999), at999[i]);
            Checks.due("turningPoint(" + size + ", 1000)", x.turningPoint(size, 1000), at1000[i]);
        }
        Checks.refused("turningPoint(64, -1)", Checks.BAD_VALUE, x -> x.turningPoint(64, -1));
        Checks.refused("turningPoint(64, 1001)", Checks.BAD_VALUE, x -> x.turningPoint(64, 1001));
        Checks.asked("turningPoint(64, 1000)", 193, x -> x.turningPoint(64, 1000));
    }

    /** "3 to the power (256 / size)", and its powers: 1 comes again at the size, and not before. */
    private static void promise16PointsOfAllSizes() {
        for (int i = 0; i < SIZES.size(); i++) {
            Counted x = new Counted();
            int size = SIZES.get(i);
            int due = 1;
            for (int power = 0; power <= size; power++) {
                Checks.due("turningPoint(" + size + ", " + power + ")", x.turningPoint(size, power), due);
                Checks.due("turningPoint(" + size + ", " + power + ") is 1", due == 1 ? 1 : 0, power % size == 0 ? 1 : 0);
                due = due * POINTS.get(i) % 257;
            }
        }
    }
}
