/** The boundary cases of the promises 1 and 3 to 6, and of what the document's terms say of rows and products. */
final class ProductsBoundariesTest {
    private static final int LEAST = Integer.MIN_VALUE;
    private static final int GREATEST = Integer.MAX_VALUE;
    private static final int[] NO_REGISTERS = {-1, 6, 7, LEAST, GREATEST};

    public static void main(String[] args) {
        promise1SixRowsOfTheOneNumber0();
        promise1NothingElseIsThere();
        promise1ObjectsAreApart();
        promise1RowsAreApart();
        promise3Registers();
        promise3Places();
        promise3PlaceAtTheEndMakesItLongerByOne();
        promise3Numbers();
        promise3LongestRow();
        promise3FirstErrorFirst();
        promise4Registers();
        promise4Times();
        promise4AsLongAsTheLongerOne();
        promise4Modulo257();
        promise4IntoRowsItIsMadeOf();
        promise4FirstErrorFirst();
        promise5Registers();
        promise5Lengths();
        promise5LongerThan64();
        promise5NumbersThatAre0AtTheEndCount();
        promise5Modulo257();
        promise5IntoRowsItIsMadeOf();
        promise5FirstErrorFirst();
        promise6Registers();
        promise6Sizes();
        promise6GoesRoundAtTheSize();
        promise6OfTheLongestRows();
        promise6NoneIfAllAre0();
        promise6IntoRowsItIsMadeOf();
        promise6FirstErrorFirst();
        Checks.end();
    }

    // ---- promise 1

    /** "registers with the one number 0", "6 registers, 0 to 5". */
    private static void promise1SixRowsOfTheOneNumber0() {
        Counted x = new Counted();
        for (int register = 0; register < 6; register++) {
            Checks.due("new: of(" + register + ", 0)", x.of(register, 0), 1);
            Checks.due("new: number(" + register + ", 0)", x.number(register, 0), 0);
            Checks.due("new: number(" + register + ", 1)", x.number(register, 1), Checks.NO_SUCH);
            Checks.due("new: of(" + register + ", 1)", x.of(register, 1), Checks.NONE);
        }
        Checks.due("new: of(6, 0)", x.of(6, 0), Checks.NO_SUCH);
        Checks.due("new: of(-1, 0)", x.of(-1, 0), Checks.NO_SUCH);
        Checks.due("new: count(0)", x.count(0), 6);
    }

    private static void promise1NothingElseIsThere() {
        Counted x = new Counted();
        Checks.due("new: count(1)", x.count(1), 0);
        Checks.due("new: wipe", x.wipe(), 0);
        Checks.due("new: fault", x.fault(), 0);
        Checks.due("new: count(2)", x.count(2), 0);
        Checks.leaves(Counted::new, "new: undo", Checks.NOT_POSSIBLE, y -> y.undo());
        Checks.leaves(Counted::new, "new: restore(0)", Checks.NOT_POSSIBLE, y -> y.restore(0));
        Checks.leaves(Counted::new, "new: restore(1)", Checks.NOT_POSSIBLE, y -> y.restore(1));
        Checks.leaves(Counted::new, "new: read(0)", Checks.BAD_TEXT, y -> y.read(0));
    }

    private static void promise1ObjectsAreApart() {
        Counted first = new Counted();
        String before = Checks.everything(new Counted());
        Checks.everything(Checks.full());
        Counted later = new Counted();
        Checks.dueText("an older object", Checks.everything(first), before);
        Checks.dueText("a later object", Checks.everything(later), before);
    }

    /** A row that is made out of another one, and is the same, changes without it, and it without that. */
    private static void promise1RowsAreApart() {
        Checks.Call[] copies = {
            x -> x.add(0, 1, 0, 2), x -> x.add(1, 0, 1, 2), x -> x.product(0, 3, 2), x -> x.product(3, 0, 2),
            x -> x.round(0, 3, 2, 2), x -> x.power(0, 1, 2), x -> x.divide(0, 3, 2, 4), x -> x.divide(0, 5, 4, 2),
            x -> x.divisor(0, 1, 2), x -> x.divisor(1, 0, 2), x -> x.divisor(0, 0, 2)};
        for (int i = 0; i < copies.length; i++) {
            Counted x = Checks.withRows(Checks.row(7, 1), Checks.row(0), Checks.row(9), Checks.row(1), Checks.row(8),
                    Checks.row(0, 0, 3));
            copies[i].on(x);
            Checks.dueRow("copy " + i, x, 2, 7, 1);
            x.set(2, 0, 50);
            Checks.dueRow("copy " + i + ": the row after the copy has changed", x, 0, 7, 1);
            x.set(0, 1, 60);
            Checks.dueRow("copy " + i + ": the copy after the row has changed", x, 2, 50, 1);
            x.undo();
            Checks.dueRow("copy " + i + ": the copy after an undo", x, 2, 50, 1);
            Checks.dueRow("copy " + i + ": the row after an undo", x, 0, 7, 1);
        }
        Checks.Call[] copiesOfOne = {x -> x.turn(0, 1, 2), x -> x.turnBack(0, 2), x -> x.power(0, 1, 2)};
        for (int i = 0; i < copiesOfOne.length; i++) {
            Counted x = Checks.withRows(Checks.row(7));
            copiesOfOne[i].on(x);
            x.set(2, 0, 50);
            Checks.dueRow("copy of one " + i, x, 0, 7);
            x.set(0, 0, 60);
            Checks.dueRow("copy of one " + i, x, 2, 50);
        }
    }

    // ---- promise 3: set

    private static void promise3Registers() {
        for (int register : NO_REGISTERS) {
            Checks.refused("set(" + register + ", 0, 1)", Checks.NO_SUCH, x -> x.set(register, 0, 1));
        }
        for (int register = 0; register < 6; register++) {
            int to = register;
            Checks.changed(Counted::new, "set(" + to + ", 0, 1)", 1, x -> x.set(to, 0, 1), to, 1);
        }
    }

    /** "place: 0 to the length of the row". */
    private static void promise3Places() {
        for (int place : new int[] {-1, 4, 5, 64, LEAST, GREATEST}) {
            Checks.refused("set(0, " + place + ", 9)", Checks.NO_SUCH, x -> x.set(0, place, 9));
        }
        Checks.changed(Checks::full, "set(0, 0, 9)", 3, x -> x.set(0, 0, 9), 0, 9, 2, 3);
        Checks.changed(Checks::full, "set(0, 2, 9)", 3, x -> x.set(0, 2, 9), 0, 1, 2, 9);
        Checks.changed(Checks::full, "set(0, 3, 9)", 4, x -> x.set(0, 3, 9), 0, 1, 2, 3, 9);
        Checks.refused("set(2, 2, 0)", Checks.NO_SUCH, x -> x.set(2, 2, 0));
        Checks.changed(Checks::full, "set(2, 1, 0)", 2, x -> x.set(2, 1, 0), 2, 5, 0);
    }

    /** "a place at its end makes it longer by one", at each length; another one does not, and 0 is a number, too. */
    private static void promise3PlaceAtTheEndMakesItLongerByOne() {
        Counted x = new Counted();
        for (int length = 1; length < 64; length++) {
            Checks.due("set beyond the end " + length, x.set(0, length + 1, 0), Checks.NO_SUCH);
            Checks.due("set at the end " + length, x.set(0, length, length % 2), length + 1);
            Checks.due("set at the last place " + length, x.set(0, length, 0), length + 1);
            Checks.due("set at the place 0 of " + (length + 1), x.set(0, 0, 1), length + 1);
        }
        Checks.due("its degree", x.of(0, 1), 0);
        Checks.due("its length", x.of(0, 0), 64);
    }

    /** "number: 0 to 256". */
    private static void promise3Numbers() {
        for (int number : new int[] {-1, 257, 258, 514, -257, LEAST, GREATEST}) {
            Checks.refused("set(0, 1, " + number + ")", Checks.BAD_VALUE, x -> x.set(0, 1, number));
            Checks.refused("set(0, 3, " + number + ")", Checks.BAD_VALUE, x -> x.set(0, 3, number));
        }
        Checks.changed(Checks::full, "set(0, 1, 0)", 3, x -> x.set(0, 1, 0), 0, 1, 0, 3);
        Checks.changed(Checks::full, "set(0, 1, 256)", 3, x -> x.set(0, 1, 256), 0, 1, 256, 3);
        Checks.changed(Checks::full, "set(0, 3, 0)", 4, x -> x.set(0, 3, 0), 0, 1, 2, 3, 0);
        Checks.changed(Checks::full, "set(0, 3, 256)", 4, x -> x.set(0, 3, 256), 0, 1, 2, 3, 256);
    }

    /** "1 to 64 numbers", "TOO_MANY if it would be longer than 64". */
    private static void promise3LongestRow() {
        Counted x = Checks.withRows(Checks.all(63, 3));
        Checks.due("set(0, 63, 4)", x.set(0, 63, 4), 64);
        Checks.due("number(0, 63)", x.number(0, 63), 4);
        Checks.due("set(0, 64, 4)", x.set(0, 64, 4), Checks.TOO_MANY);
        Checks.due("set(0, 63, 5)", x.set(0, 63, 5), 64);
        Checks.due("set(0, 0, 6)", x.set(0, 0, 6), 64);
        Checks.refused("set(4, 64, 0)", Checks.TOO_MANY, y -> y.set(4, 64, 0));
        Checks.refused("set(4, 64, 256)", Checks.TOO_MANY, y -> y.set(4, 64, 256));
        Checks.refused("set(4, 65, 0)", Checks.NO_SUCH, y -> y.set(4, 65, 0));
    }

    private static void promise3FirstErrorFirst() {
        Checks.refused("set(6, 0, 257)", Checks.NO_SUCH, x -> x.set(6, 0, 257));
        Checks.refused("set(-1, 64, 0)", Checks.NO_SUCH, x -> x.set(-1, 64, 0));
        Checks.refused("set(0, 4, 257)", Checks.NO_SUCH, x -> x.set(0, 4, 257));
        Checks.refused("set(0, -1, -1)", Checks.NO_SUCH, x -> x.set(0, -1, -1));
        Checks.refused("set(4, 65, 257)", Checks.NO_SUCH, x -> x.set(4, 65, 257));
        Checks.refused("set(4, 64, 257)", Checks.BAD_VALUE, x -> x.set(4, 64, 257));
        Checks.refused("set(4, 64, -1)", Checks.BAD_VALUE, x -> x.set(4, 64, -1));
    }

    // ---- promise 4: add

    private static void promise4Registers() {
        for (int none : NO_REGISTERS) {
            Checks.refused("add(" + none + ", 0, 1, 2)", Checks.NO_SUCH, x -> x.add(none, 0, 1, 2));
            Checks.refused("add(0, " + none + ", 1, 2)", Checks.NO_SUCH, x -> x.add(0, none, 1, 2));
            Checks.refused("add(0, 2, 1, " + none + ")", Checks.NO_SUCH, x -> x.add(0, 2, 1, none));
        }
        for (int register = 0; register < 6; register++) {
            int to = register;
            Checks.changed(Checks::full, "add(2, 2, 1, " + to + ")", 1, x -> x.add(2, 2, 1, to), to, 10);
        }
        Checks.due("add(5, 5, 1, 0)", Checks.full().add(5, 5, 1, 0), Checks.LENGTH_5);
    }

    /** "times: 0 to 256". */
    private static void promise4Times() {
        for (int times : new int[] {-1, 257, 258, LEAST, GREATEST}) {
            Checks.refused("add(0, 3, " + times + ", 2)", Checks.BAD_VALUE, x -> x.add(0, 3, times, 2));
        }
        Checks.changed(Checks::full, "add(0, 3, 0, 2)", 3, x -> x.add(0, 3, 0, 2), 2, 1, 2, 3);
        Checks.changed(Checks::full, "add(0, 3, 1, 2)", 3, x -> x.add(0, 3, 1, 2), 2, 1, 6, 3);
        Checks.changed(Checks::full, "add(0, 3, 256, 2)", 3, x -> x.add(0, 3, 256, 2), 2, 1, 255, 3);
    }

    /** "it is as long as the longer one of both", also if numbers that are 0 make it so, and times is 0. */
    private static void promise4AsLongAsTheLongerOne() {
        Checks.changed(Checks::full, "add(2, 0, 1, 3)", 3, x -> x.add(2, 0, 1, 3), 3, 6, 2, 3);
        Checks.changed(Checks::full, "add(2, 0, 0, 3)", 3, x -> x.add(2, 0, 0, 3), 3, 5, 0, 0);
        Checks.changed(Checks::full, "add(0, 2, 1, 3)", 3, x -> x.add(0, 2, 1, 3), 3, 6, 2, 3);
        Checks.changed(Checks::full, "add(2, 1, 7, 3)", 2, x -> x.add(2, 1, 7, 3), 3, 5, 0);
        Checks.changed(Checks::full, "add(0, 0, 256, 3)", 3, x -> x.add(0, 0, 256, 3), 3, 0, 0, 0);
        Checks.changed(Checks::full, "add(1, 1, 256, 3)", 2, x -> x.add(1, 1, 256, 3), 3, 0, 0);
        Counted x = Checks.full();
        Checks.due("add(2, 4, 1, 3)", x.add(2, 4, 1, 3), 64);
        Checks.due("its number 0", x.number(3, 0), (5 + x.number(4, 0)) % 257);
        Checks.due("its number 63", x.number(3, 63), x.number(4, 63));
        Checks.due("add(4, 2, 0, 3)", x.add(4, 2, 0, 3), 64);
        Checks.due("add(4, 4, 256, 3)", x.add(4, 4, 256, 3), 64);
        Checks.due("its degree", x.of(3, 1), Checks.NONE);
    }

    /** "All is counted modulo 257": the sums 256 and 257, and the greatest number times the greatest one. */
    private static void promise4Modulo257() {
        Checks.Maker maker = () -> Checks.withRows(Checks.row(255, 256, 256, 0), Checks.row(1, 1, 256, 256));
        Checks.changed(maker, "add(0, 1, 1, 2)", 4, x -> x.add(0, 1, 1, 2), 2, 256, 0, 255, 256);
        Checks.changed(maker, "add(0, 1, 256, 2)", 4, x -> x.add(0, 1, 256, 2), 2, 254, 255, 0, 1);
    }

    private static void promise4IntoRowsItIsMadeOf() {
        Checks.changed(Checks::full, "add(0, 3, 2, 0)", 3, x -> x.add(0, 3, 2, 0), 0, 1, 10, 3);
        Checks.changed(Checks::full, "add(0, 3, 2, 3)", 3, x -> x.add(0, 3, 2, 3), 3, 1, 10, 3);
        Checks.changed(Checks::full, "add(3, 0, 2, 3)", 3, x -> x.add(3, 0, 2, 3), 3, 2, 8, 6);
        Checks.changed(Checks::full, "add(0, 0, 1, 0)", 3, x -> x.add(0, 0, 1, 0), 0, 2, 4, 6);
    }

    private static void promise4FirstErrorFirst() {
        Checks.refused("add(6, 0, 257, 0)", Checks.NO_SUCH, x -> x.add(6, 0, 257, 0));
        Checks.refused("add(0, -1, -1, 0)", Checks.NO_SUCH, x -> x.add(0, -1, -1, 0));
        Checks.refused("add(0, 0, 257, 6)", Checks.NO_SUCH, x -> x.add(0, 0, 257, 6));
    }

    // ---- promise 5: product

    private static void promise5Registers() {
        for (int none : NO_REGISTERS) {
            Checks.refused("product(" + none + ", 0, 2)", Checks.NO_SUCH, x -> x.product(none, 0, 2));
            Checks.refused("product(0, " + none + ", 2)", Checks.NO_SUCH, x -> x.product(0, none, 2));
            Checks.refused("product(0, 2, " + none + ")", Checks.NO_SUCH, x -> x.product(0, 2, none));
        }
        for (int register = 0; register < 6; register++) {
            int to = register;
            Checks.changed(Checks::full, "product(2, 2, " + to + ")", 1, x -> x.product(2, 2, to), to, 25);
        }
        Checks.due("product(5, 2, 0)", Checks.full().product(5, 2, 0), Checks.LENGTH_5);
        Checks.due("product(2, 5, 0)", Checks.full().product(2, 5, 0), Checks.LENGTH_5);
    }

    /** "its length is that of both together, less 1", with the first and the last number. */
    private static void promise5Lengths() {
        Checks.changed(Counted::new, "product(0, 1, 2)", 1, x -> x.product(0, 1, 2), 2, 0);
        Checks.changed(Checks::full, "product(0, 2, 3)", 3, x -> x.product(0, 2, 3), 3, 5, 10, 15);
        Checks.changed(Checks::full, "product(2, 0, 3)", 3, x -> x.product(2, 0, 3), 3, 5, 10, 15);
        Checks.changed(Checks::full, "product(0, 1, 3)", 4, x -> x.product(0, 1, 3), 3, 0, 0, 0, 0);
        dueProductLength(1, 64);
        dueProductLength(64, 1);
        dueProductLength(2, 63);
        dueProductLength(63, 2);
        dueProductLength(32, 33);
        dueProductLength(33, 32);
        dueProductLength(32, 32);
    }

    private static void dueProductLength(int first, int second) {
        Counted x = Checks.withRows(Checks.all(first, 2), Checks.all(second, 3));
        String call = "product of " + first + " and " + second;
        Checks.due(call, x.product(0, 1, 2), first + second - 1);
        Checks.due(call + ": its length", x.of(2, 0), first + second - 1);
        Checks.due(call + ": its number 0", x.number(2, 0), 6);
        Checks.due(call + ": its last number", x.number(2, first + second - 2), 6);
        Checks.due(call + ": its greatest number", x.number(2, Math.min(first, second) - 1),
                6 * Math.min(first, second) % 257);
    }

    /** "TOO_MANY if it would be longer than 64". */
    private static void promise5LongerThan64() {
        dueProductTooMany(64, 2);
        dueProductTooMany(2, 64);
        dueProductTooMany(33, 33);
        dueProductTooMany(63, 3);
        dueProductTooMany(64, 64);
        Checks.refused("product(4, 3, 4)", Checks.TOO_MANY, x -> x.product(4, 3, 4));
        Checks.refused("product(3, 4, 0)", Checks.TOO_MANY, x -> x.product(3, 4, 0));
        Checks.refused("product(5, 5, 5)", Checks.TOO_MANY, x -> x.product(5, 5, 5));
    }

    private static void dueProductTooMany(int first, int second) {
        Counted x = Checks.withRows(Checks.all(first, 2), Checks.all(second, 3));
        Checks.due("product of " + first + " and " + second, x.product(0, 1, 2), Checks.TOO_MANY);
        Checks.dueRow("product of " + first + " and " + second, x, 2, 0);
        Checks.due("product of " + first + " and " + second + ": of(0, 0)", x.of(0, 0), first);
    }

    /** "numbers that are 0 can stand at its end": they count, also where the product would be all 0. */
    private static void promise5NumbersThatAre0AtTheEndCount() {
        Checks.refused("product(4, 1, 0)", Checks.TOO_MANY, x -> x.product(4, 1, 0));
        Checks.Maker maker = () -> {
            Counted x = Checks.withRows(Checks.row(7));
            x.round(0, 0, 33, 1);
            x.round(5, 5, 32, 2);
            return x;
        };
        Checks.leaves(maker, "product(1, 1, 0)", Checks.TOO_MANY, x -> x.product(1, 1, 0));
        int[] row = Checks.all(64, 0);
        Checks.changed(maker, "product(1, 2, 0)", 64, x -> x.product(1, 2, 0), 0, row);
        row[0] = 49 * 7 % 257;
        Checks.changed(maker, "product(0, 1, 3)", 33, x -> x.product(0, 1, 3), 3, java.util.Arrays.copyOf(row, 33));
    }

    /** The products and sums that are just 256, 257 and 258, and the greatest ones. */
    private static void promise5Modulo257() {
        Checks.Maker maker = () -> Checks.withRows(Checks.row(16, 1), Checks.row(16, 1), Checks.row(256, 256),
                Checks.row(2, 43));
        Checks.changed(maker, "product(0, 1, 4)", 3, x -> x.product(0, 1, 4), 4, 256, 32, 1);
        Checks.changed(maker, "product(2, 2, 4)", 3, x -> x.product(2, 2, 4), 4, 1, 2, 1);
        Checks.changed(maker, "product(2, 3, 4)", 3, x -> x.product(2, 3, 4), 4, 255, 212, 214);
        Checks.changed(() -> Checks.withRows(Checks.row(1, 256), Checks.row(1, 1)),
                "product(0, 1, 4)", 3, x -> x.product(0, 1, 4), 4, 1, 0, 256);
    }

    private static void promise5IntoRowsItIsMadeOf() {
        Checks.changed(Checks::full, "product(0, 3, 0)", 4, x -> x.product(0, 3, 0), 0, 0, 4, 8, 12);
        Checks.changed(Checks::full, "product(0, 3, 3)", 4, x -> x.product(0, 3, 3), 3, 0, 4, 8, 12);
        Checks.changed(Checks::full, "product(0, 0, 0)", 5, x -> x.product(0, 0, 0), 0, 1, 4, 10, 12, 9);
    }

    private static void promise5FirstErrorFirst() {
        Checks.refused("product(4, 4, 6)", Checks.NO_SUCH, x -> x.product(4, 4, 6));
        Checks.refused("product(4, -1, 4)", Checks.NO_SUCH, x -> x.product(4, -1, 4));
        Checks.refused("product(6, 4, 4)", Checks.NO_SUCH, x -> x.product(6, 4, 4));
    }

    // ---- promise 6: round

    private static void promise6Registers() {
        for (int none : NO_REGISTERS) {
            Checks.refused("round(" + none + ", 0, 3, 2)", Checks.NO_SUCH, x -> x.round(none, 0, 3, 2));
            Checks.refused("round(0, " + none + ", 3, 2)", Checks.NO_SUCH, x -> x.round(0, none, 3, 2));
            Checks.refused("round(0, 2, 3, " + none + ")", Checks.NO_SUCH, x -> x.round(0, 2, 3, none));
        }
        for (int register = 0; register < 6; register++) {
            int to = register;
            Checks.changed(Checks::full, "round(2, 2, 1, " + to + ")", 0, x -> x.round(2, 2, 1, to), to, 25);
        }
        Checks.due("round(5, 2, 64, 0)", Checks.full().round(5, 2, 64, 0), 4);
        Checks.due("round(2, 5, 64, 0)", Checks.full().round(2, 5, 64, 0), 4);
    }

    /** "size: 1 to 64". */
    private static void promise6Sizes() {
        for (int size : new int[] {0, -1, 65, 128, LEAST, GREATEST}) {
            Checks.refused("round(0, 3, " + size + ", 2)", Checks.BAD_VALUE, x -> x.round(0, 3, size, 2));
        }
        Checks.changed(Checks::full, "round(0, 3, 1, 2)", 0, x -> x.round(0, 3, 1, 2), 2, 24);
        int[] row = Checks.all(64, 0);
        row[1] = 4;
        row[2] = 8;
        row[3] = 12;
        Checks.changed(Checks::full, "round(0, 3, 64, 2)", 3, x -> x.round(0, 3, 64, 2), 2, row);
        for (int size = 1; size <= 64; size++) {
            Counted x = Checks.full();
            x.round(0, 3, size, 2);
            Checks.due("round(0, 3, " + size + ", 2): its length", x.of(2, 0), size);
            Checks.due("round(0, 3, " + size + ", 2): its sum", x.of(2, 3), 24);
        }
    }

    /** 1,2,3 times 0,4 is 0,4,8,12: the size above its length, its length, one less, and less than both rows. */
    private static void promise6GoesRoundAtTheSize() {
        Checks.changed(Checks::full, "round(0, 3, 5, 2)", 3, x -> x.round(0, 3, 5, 2), 2, 0, 4, 8, 12, 0);
        Checks.changed(Checks::full, "round(0, 3, 4, 2)", 3, x -> x.round(0, 3, 4, 2), 2, 0, 4, 8, 12);
        Checks.changed(Checks::full, "round(0, 3, 3, 2)", 2, x -> x.round(0, 3, 3, 2), 2, 12, 4, 8);
        Checks.changed(Checks::full, "round(0, 3, 2, 2)", 1, x -> x.round(0, 3, 2, 2), 2, 8, 16);
        Checks.changed(Checks::full, "round(0, 0, 2, 2)", 1, x -> x.round(0, 0, 2, 2), 2, 20, 16);
        Checks.changed(Checks::full, "round(0, 0, 1, 2)", 0, x -> x.round(0, 0, 1, 2), 2, 36);
        Checks.changed(Checks::full, "round(3, 3, 1, 2)", 0, x -> x.round(3, 3, 1, 2), 2, 16);
    }

    /** Two rows of 64: the sums that go round more than once. */
    private static void promise6OfTheLongestRows() {
        for (int size : new int[] {1, 2, 31, 32, 33, 63, 64}) {
            Counted x = Checks.withRows(Checks.all(64, 1));
            Checks.due("round of 64 by " + size, x.round(0, 0, size, 1), size - 1);
            int[] sums = Checks.all(size, 0);
            for (int k = 0; k < 127; k++) {
                sums[k % size] = (sums[k % size] + Math.min(k + 1, 127 - k)) % 257;
            }
            Checks.dueRow("round of 64 by " + size, x, 1, sums);
        }
    }

    /** "Returns its degree (NONE)": 0 is a degree; NONE is no error, so that the call is a change. */
    private static void promise6NoneIfAllAre0() {
        Checks.changed(Checks::full, "round(0, 1, 2, 2)", Checks.NONE, x -> x.round(0, 1, 2, 2), 2, 0, 0);
        Checks.changed(Checks::full, "round(1, 0, 1, 0)", Checks.NONE, x -> x.round(1, 0, 1, 0), 0, 0);
        Checks.changed(Checks::full, "round(1, 1, 64, 2)", Checks.NONE, x -> x.round(1, 1, 64, 2), 2, Checks.all(64, 0));
        Checks.Maker maker = () -> Checks.withRows(Checks.row(1, 1), Checks.row(1, 256));
        Checks.changed(maker, "round(0, 1, 2, 0)", Checks.NONE, x -> x.round(0, 1, 2, 0), 0, 0, 0);
        Checks.changed(maker, "round(0, 1, 1, 0)", Checks.NONE, x -> x.round(0, 1, 1, 0), 0, 0);
        Checks.changed(maker, "round(0, 1, 3, 0)", 2, x -> x.round(0, 1, 3, 0), 0, 1, 0, 256);
        Checks.changed(maker, "round(1, 1, 2, 5)", 1, x -> x.round(1, 1, 2, 5), 5, 2, 255);
        Checks.changed(Checks::full, "round(2, 2, 3, 0)", 0, x -> x.round(2, 2, 3, 0), 0, 25, 0, 0);
    }

    private static void promise6IntoRowsItIsMadeOf() {
        Checks.changed(Checks::full, "round(0, 3, 3, 0)", 2, x -> x.round(0, 3, 3, 0), 0, 12, 4, 8);
        Checks.changed(Checks::full, "round(0, 3, 3, 3)", 2, x -> x.round(0, 3, 3, 3), 3, 12, 4, 8);
        Checks.changed(Checks::full, "round(0, 0, 3, 0)", 2, x -> x.round(0, 0, 3, 0), 0, 13, 13, 10);
    }

    private static void promise6FirstErrorFirst() {
        Checks.refused("round(6, 0, 0, 0)", Checks.NO_SUCH, x -> x.round(6, 0, 0, 0));
        Checks.refused("round(0, -1, 65, 0)", Checks.NO_SUCH, x -> x.round(0, -1, 65, 0));
        Checks.refused("round(0, 0, 65, 6)", Checks.NO_SUCH, x -> x.round(0, 0, 65, 6));
        // An error comes before NONE, which an all 0 product would give.
        Checks.refused("round(1, 1, 0, 0)", Checks.BAD_VALUE, x -> x.round(1, 1, 0, 0));
    }
}
