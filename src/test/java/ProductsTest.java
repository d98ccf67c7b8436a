/** Promises 1 and 3 to 8: a new object, numbers that are set, sums, products, powers and inverses. */
final class ProductsTest {
    public static void main(String[] args) {
        promise1NewObject();
        promise3Set();
        promise3SetErrors();
        promise4Add();
        promise4AddErrors();
        promise4AddBeyondTheEnd();
        promise5Product();
        promise5ProductErrors();
        promise6Round();
        promise6RoundErrors();
        promise7Power();
        promise7PowerErrors();
        promise8Inverse();
        promise8InverseErrors();
        Checks.end();
    }

    private static void promise1NewObject() {
        Counted x = new Counted();
        for (int register = 0; register < 6; register++) {
            Checks.dueRow("new", x, register, 0);
            Checks.due("new: degree", x.of(register, 1), Checks.NONE);
        }
        Checks.due("new: count(0)", x.count(0), 6);
        Checks.due("new: count(1)", x.count(1), 0);
        Checks.due("new: count(2)", x.count(2), 0);
        Checks.due("new: undo", x.undo(), Checks.NOT_POSSIBLE);
        Checks.due("new: restore(0)", x.restore(0), Checks.NOT_POSSIBLE);
        Checks.due("new: restore(1)", x.restore(1), Checks.NOT_POSSIBLE);
        Counted y = new Counted();
        x.set(0, 0, 7);
        Checks.dueRow("another object", y, 0, 0);
    }

    private static void promise3Set() {
        Counted x = new Counted();
        Checks.changes(x, "set(0, 0, 256)", 1, () -> x.set(0, 0, 256));
        Checks.changes(x, "set(0, 1, 5)", 2, () -> x.set(0, 1, 5));
        Checks.changes(x, "set(0, 2, 0)", 3, () -> x.set(0, 2, 0));
        Checks.changes(x, "set(0, 1, 6)", 3, () -> x.set(0, 1, 6));
        Checks.changes(x, "set(5, 0, 1)", 1, () -> x.set(5, 0, 1));
        Checks.dueRow("set", x, 0, 256, 6, 0);
        Checks.dueRow("set", x, 5, 1);
        for (int place = 3; place < 64; place++) {
            Checks.due("set(0, " + place + ", 9)", x.set(0, place, 9), place + 1);
        }
        Checks.due("set(0, 63, 0)", x.set(0, 63, 0), 64);
        Checks.due("the sum then", x.of(0, 3), 256 + 6 + 60 * 9);
    }

    private static void promise3SetErrors() {
        Counted x = Checks.withRows(Checks.row(1, 2));
        Checks.unchanged(x, "set(-1, 0, 0)", Checks.NO_SUCH, () -> x.set(-1, 0, 0));
        Checks.unchanged(x, "set(6, 0, 0)", Checks.NO_SUCH, () -> x.set(6, 0, 0));
        Checks.unchanged(x, "set(0, -1, 0)", Checks.NO_SUCH, () -> x.set(0, -1, 0));
        Checks.unchanged(x, "set(0, 3, 0)", Checks.NO_SUCH, () -> x.set(0, 3, 0));
        Checks.unchanged(x, "set(0, 3, 257)", Checks.NO_SUCH, () -> x.set(0, 3, 257));
        Checks.unchanged(x, "set(0, 0, -1)", Checks.BAD_VALUE, () -> x.set(0, 0, -1));
        Checks.unchanged(x, "set(0, 2, 257)", Checks.BAD_VALUE, () -> x.set(0, 2, 257));
        int least = Integer.MIN_VALUE;
        int greatest = Integer.MAX_VALUE;
        Checks.unchanged(x, "set(least, ..)", Checks.NO_SUCH, () -> x.set(least, least, least));
        Checks.unchanged(x, "set(0, greatest, ..)", Checks.NO_SUCH, () -> x.set(0, greatest, greatest));
        Counted full = Checks.withRows(Checks.all(64, 1));
        Checks.unchanged(full, "set(0, 64, 1)", Checks.TOO_MANY, () -> full.set(0, 64, 1));
        Checks.unchanged(full, "set(0, 64, 257)", Checks.BAD_VALUE, () -> full.set(0, 64, 257));
        Checks.unchanged(full, "set(0, 65, 1)", Checks.NO_SUCH, () -> full.set(0, 65, 1));
    }

    private static void promise4Add() {
        Counted x = Checks.withRows(Checks.row(1, 2, 3), Checks.row(10, 256));
        Checks.changes(x, "add(0, 1, 1, 2)", 3, () -> x.add(0, 1, 1, 2));
        Checks.dueRow("add(0, 1, 1, 2)", x, 2, 11, 1, 3);
        Checks.changes(x, "add(1, 0, 2, 2)", 3, () -> x.add(1, 0, 2, 2));
        Checks.dueRow("add(1, 0, 2, 2)", x, 2, 12, 3, 6);
        Checks.changes(x, "add(0, 0, 256, 3)", 3, () -> x.add(0, 0, 256, 3));
        Checks.dueRow("add(0, 0, 256, 3)", x, 3, 0, 0, 0);
        Checks.changes(x, "add(1, 0, 0, 4)", 3, () -> x.add(1, 0, 0, 4));
        Checks.dueRow("add(1, 0, 0, 4)", x, 4, 10, 256, 0);
        Checks.due("add(0, 1, 256, 0)", x.add(0, 1, 256, 0), 3);
        Checks.dueRow("add(0, 1, 256, 0)", x, 0, 248, 3, 3);
        Checks.due("add(0, 1, 256, 1)", x.add(0, 1, 256, 1), 3);
        Checks.dueRow("add(0, 1, 256, 1)", x, 1, 238, 4, 3);
    }

    private static void promise4AddErrors() {
        Counted x = Checks.withRows(Checks.row(1, 2));
        Checks.unchanged(x, "add(6, 0, 0, 0)", Checks.NO_SUCH, () -> x.add(6, 0, 0, 0));
        Checks.unchanged(x, "add(-1, 0, 0, 0)", Checks.NO_SUCH, () -> x.add(-1, 0, 0, 0));
        Checks.unchanged(x, "add(0, 6, 0, 0)", Checks.NO_SUCH, () -> x.add(0, 6, 0, 0));
        Checks.unchanged(x, "add(0, 0, 0, 6)", Checks.NO_SUCH, () -> x.add(0, 0, 0, 6));
        Checks.unchanged(x, "add(0, 0, 257, -1)", Checks.NO_SUCH, () -> x.add(0, 0, 257, -1));
        Checks.unchanged(x, "add(0, 0, -1, 0)", Checks.BAD_VALUE, () -> x.add(0, 0, -1, 0));
        Checks.unchanged(x, "add(0, 0, 257, 0)", Checks.BAD_VALUE, () -> x.add(0, 0, 257, 0));
    }

    /** Beyond the end of a row is nothing, however it was made, also where longer rows were before. */
    private static void promise4AddBeyondTheEnd() {
        dueNothingBeyond("product", x -> x.product(0, 1, 4));
        dueNothingBeyond("round", x -> x.round(0, 0, 4, 4));
        dueNothingBeyond("power", x -> x.power(0, 2, 4));
        dueNothingBeyond("inverse", x -> x.inverse(0, 4, 4));
        dueNothingBeyond("the rest", x -> x.divide(2, 0, 5, 4));
        dueNothingBeyond("the quotient", x -> x.divide(0, 1, 4, 5));
        dueNothingBeyond("divisor", x -> x.divisor(0, 2, 4));
        dueNothingBeyond("turn", x -> x.turn(0, 4, 4));
        dueNothingBeyond("turnBack", x -> x.turnBack(1, 4));
        dueNothingBeyond("add", x -> x.add(0, 1, 9, 4));
        dueNothingBeyond("read", x -> {
            Checks.type(x, "1,2");
            return x.read(4);
        });
        dueNothingBeyond("restore", x -> x.restore(0));
        dueNothingBeyond("undo", x -> x.undo());
    }

    /** The register 3 has 64 numbers that are 0, the register 2 has 64 other ones, the register 4 gets a row. */
    private static void dueNothingBeyond(String name, Checks.Call change) {
        Counted x = Checks.withRows(Checks.row(1, 2, 3), Checks.row(4, 5), Checks.all(64, 7));
        x.round(5, 5, 64, 3);
        x.save(0);
        x.add(2, 2, 1, 4);
        change.on(x);
        int length = x.of(4, 0);
        Checks.due(name + " makes a shorter row", length < 64 ? 1 : 0, 1);
        Checks.due("add(4, 3, 1, 4) after " + name, x.add(4, 3, 1, 4), 64);
        for (int place = length; place < 64; place++) {
            Checks.due("the number beyond the end at " + place + " after " + name, x.number(4, place), 0);
        }
    }

    private static void promise5Product() {
        Counted x = Checks.withRows(Checks.row(1, 2, 3), Checks.row(4, 5), Checks.row(256, 256, 0));
        Checks.changes(x, "product(0, 1, 3)", 4, () -> x.product(0, 1, 3));
        Checks.dueRow("product(0, 1, 3)", x, 3, 4, 13, 22, 15);
        Checks.changes(x, "product(2, 2, 4)", 5, () -> x.product(2, 2, 4));
        Checks.dueRow("product(2, 2, 4)", x, 4, 1, 2, 1, 0, 0);
        Checks.changes(x, "product(5, 1, 5)", 2, () -> x.product(5, 1, 5));
        Checks.dueRow("product(5, 1, 5)", x, 5, 0, 0);
        Checks.due("product(0, 0, 0)", x.product(0, 0, 0), 5);
        Checks.dueRow("product(0, 0, 0)", x, 0, 1, 4, 10, 12, 9);
        Counted longest = Checks.withRows(Checks.all(32, 256), Checks.all(33, 256));
        Checks.due("product of 32 and 33", longest.product(0, 1, 2), 64);
        Checks.due("its number 31", longest.number(2, 31), 32);
        Checks.due("its number 63", longest.number(2, 63), 1);
    }

    private static void promise5ProductErrors() {
        Counted x = Checks.withRows(Checks.all(33, 0), Checks.row(1));
        Checks.unchanged(x, "product(6, 0, 0)", Checks.NO_SUCH, () -> x.product(6, 0, 0));
        Checks.unchanged(x, "product(0, -1, 0)", Checks.NO_SUCH, () -> x.product(0, -1, 0));
        Checks.unchanged(x, "product(0, 0, 6)", Checks.NO_SUCH, () -> x.product(0, 0, 6));
        Checks.unchanged(x, "product(0, 0, 1)", Checks.TOO_MANY, () -> x.product(0, 0, 1));
        Checks.due("product(0, 1, 1)", x.product(0, 1, 1), 33);
    }

    private static void promise6Round() {
        Counted x = Checks.withRows(Checks.row(1, 2, 3), Checks.row(4, 5));
        Checks.changes(x, "round(0, 1, 3, 2)", 2, () -> x.round(0, 1, 3, 2));
        Checks.dueRow("round(0, 1, 3, 2)", x, 2, 19, 13, 22);
        Checks.changes(x, "round(0, 1, 2, 2)", 1, () -> x.round(0, 1, 2, 2));
        Checks.dueRow("round(0, 1, 2, 2)", x, 2, 26, 28);
        Checks.changes(x, "round(0, 1, 1, 2)", 0, () -> x.round(0, 1, 1, 2));
        Checks.dueRow("round(0, 1, 1, 2)", x, 2, 54);
        Checks.changes(x, "round(0, 1, 6, 3)", 3, () -> x.round(0, 1, 6, 3));
        Checks.dueRow("round(0, 1, 6, 3)", x, 3, 4, 13, 22, 15, 0, 0);
        Checks.changes(x, "round(0, 5, 64, 4)", Checks.NONE, () -> x.round(0, 5, 64, 4));
        Checks.due("its length", x.of(4, 0), 64);
        Checks.due("round(0, 0, 2, 0)", x.round(0, 0, 2, 0), 1);
        Checks.dueRow("round(0, 0, 2, 0)", x, 0, 20, 16);
        Counted longest = Checks.withRows(Checks.all(64, 256), Checks.all(64, 1));
        Checks.due("round(0, 1, 64, 2)", longest.round(0, 1, 64, 2), 63);
        Checks.dueRow("round(0, 1, 64, 2)", longest, 2, Checks.all(64, 257 - 64));
        Checks.due("round(0, 1, 63, 3)", longest.round(0, 1, 63, 3), 62);
        Checks.due("its number 0", longest.number(3, 0), 257 - 66);
        Checks.due("its number 1", longest.number(3, 1), 257 - 65);
    }

    private static void promise6RoundErrors() {
        Counted x = Checks.withRows(Checks.row(1, 2));
        Checks.unchanged(x, "round(6, 0, 1, 0)", Checks.NO_SUCH, () -> x.round(6, 0, 1, 0));
        Checks.unchanged(x, "round(0, 6, 1, 0)", Checks.NO_SUCH, () -> x.round(0, 6, 1, 0));
        Checks.unchanged(x, "round(0, 0, 0, -1)", Checks.NO_SUCH, () -> x.round(0, 0, 0, -1));
        Checks.unchanged(x, "round(0, 0, 0, 0)", Checks.BAD_VALUE, () -> x.round(0, 0, 0, 0));
        Checks.unchanged(x, "round(0, 0, -1, 0)", Checks.BAD_VALUE, () -> x.round(0, 0, -1, 0));
        Checks.unchanged(x, "round(0, 0, 65, 0)", Checks.BAD_VALUE, () -> x.round(0, 0, 65, 0));
    }

    private static void promise7Power() {
        Counted x = Checks.withRows(Checks.row(1, 1), Checks.row(0, 2, 0), Checks.row(256));
        Checks.changes(x, "power(0, 4, 3)", 5, () -> x.power(0, 4, 3));
        Checks.dueRow("power(0, 4, 3)", x, 3, 1, 4, 6, 4, 1);
        Checks.changes(x, "power(0, 9, 3)", 10, () -> x.power(0, 9, 3));
        Checks.dueRow("power(0, 9, 3)", x, 3, 1, 9, 36, 84, 126, 126, 84, 36, 9, 1);
        Checks.changes(x, "power(1, 3, 4)", 7, () -> x.power(1, 3, 4));
        Checks.dueRow("power(1, 3, 4)", x, 4, 0, 0, 0, 8, 0, 0, 0);
        Checks.changes(x, "power(1, 1, 4)", 3, () -> x.power(1, 1, 4));
        Checks.dueRow("power(1, 1, 4)", x, 4, 0, 2, 0);
        Checks.changes(x, "power(1, 0, 4)", 1, () -> x.power(1, 0, 4));
        Checks.dueRow("power(1, 0, 4)", x, 4, 1);
        Checks.changes(x, "power(5, 0, 4)", 1, () -> x.power(5, 0, 4));
        Checks.dueRow("power(5, 0, 4)", x, 4, 1);
        Checks.changes(x, "power(2, 9, 4)", 1, () -> x.power(2, 9, 4));
        Checks.dueRow("power(2, 9, 4)", x, 4, 256);
        Checks.due("power(0, 2, 0)", x.power(0, 2, 0), 3);
        Checks.dueRow("power(0, 2, 0)", x, 0, 1, 2, 1);
        Counted longest = Checks.withRows(Checks.all(8, 1), Checks.all(64, 5), Checks.all(22, 1));
        Checks.due("power of 8 by 9", longest.power(0, 9, 3), 64);
        Checks.due("power of 64 by 1", longest.power(1, 1, 3), 64);
        Checks.due("power of 64 by 0", longest.power(1, 0, 3), 1);
        Checks.due("power of 22 by 3", longest.power(2, 3, 3), 64);
    }

    private static void promise7PowerErrors() {
        Counted x = Checks.withRows(Checks.all(9, 0), Checks.all(64, 1));
        Checks.unchanged(x, "power(6, 0, 0)", Checks.NO_SUCH, () -> x.power(6, 0, 0));
        Checks.unchanged(x, "power(0, 10, 6)", Checks.NO_SUCH, () -> x.power(0, 10, 6));
        Checks.unchanged(x, "power(1, -1, 0)", Checks.BAD_VALUE, () -> x.power(1, -1, 0));
        Checks.unchanged(x, "power(1, 10, 0)", Checks.BAD_VALUE, () -> x.power(1, 10, 0));
        Checks.unchanged(x, "power(0, 8, 2) of 9", Checks.TOO_MANY, () -> x.power(0, 8, 2));
        Checks.unchanged(x, "power(1, 2, 2)", Checks.TOO_MANY, () -> x.power(1, 2, 2));
    }

    private static void promise8Inverse() {
        Counted x = Checks.withRows(Checks.row(1, 256), Checks.row(2, 0), Checks.row(1, 1, 1));
        Checks.changes(x, "inverse(0, 4, 3)", 3, () -> x.inverse(0, 4, 3));
        Checks.dueRow("inverse(0, 4, 3)", x, 3, 1, 1, 1, 1);
        Checks.changes(x, "inverse(1, 3, 3)", 0, () -> x.inverse(1, 3, 3));
        Checks.dueRow("inverse(1, 3, 3)", x, 3, 129, 0, 0);
        Checks.changes(x, "inverse(2, 6, 3)", 4, () -> x.inverse(2, 6, 3));
        Checks.dueRow("inverse(2, 6, 3)", x, 3, 1, 256, 0, 1, 256, 0);
        Checks.changes(x, "inverse(2, 1, 3)", 0, () -> x.inverse(2, 1, 3));
        Checks.dueRow("inverse(2, 1, 3)", x, 3, 1);
        Checks.changes(x, "inverse(0, 64, 4)", 63, () -> x.inverse(0, 64, 4));
        Checks.dueRow("inverse(0, 64, 4)", x, 4, Checks.all(64, 1));
        Checks.due("inverse(4, 2, 4)", x.inverse(4, 2, 4), 1);
        Checks.dueRow("inverse(4, 2, 4)", x, 4, 1, 256);
        for (int number = 1; number < 257; number++) {
            Counted y = new Counted();
            y.set(0, 0, number);
            y.inverse(0, 1, 1);
            Checks.due("the inverse of " + number, y.number(1, 0) * number % 257, 1);
        }
    }

    private static void promise8InverseErrors() {
        Counted x = Checks.withRows(Checks.row(0, 1));
        Checks.unchanged(x, "inverse(6, 1, 0)", Checks.NO_SUCH, () -> x.inverse(6, 1, 0));
        Checks.unchanged(x, "inverse(0, 0, 6)", Checks.NO_SUCH, () -> x.inverse(0, 0, 6));
        Checks.unchanged(x, "inverse(0, 0, 1)", Checks.BAD_VALUE, () -> x.inverse(0, 0, 1));
        Checks.unchanged(x, "inverse(0, 65, 1)", Checks.BAD_VALUE, () -> x.inverse(0, 65, 1));
        Checks.unchanged(x, "inverse(0, 1, 1)", Checks.NOT_POSSIBLE, () -> x.inverse(0, 1, 1));
        Checks.unchanged(x, "inverse(5, 64, 1)", Checks.NOT_POSSIBLE, () -> x.inverse(5, 64, 1));
    }
}
