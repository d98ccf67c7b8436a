/** Promises 13, 14, 15 and 17: what there is to be asked without a change. */
final class ReadingsTest {
    public static void main(String[] args) {
        promise13Number();
        promise14Of();
        promise14OfRoots();
        promise14OfErrors();
        promise15Value();
        promise17Count();
        Checks.end();
    }

    private static void promise13Number() {
        Counted x = Checks.withRows(Checks.row(5, 256, 0), Checks.all(64, 8));
        Checks.unchanged(x, "number(0, 0)", 5, () -> x.number(0, 0));
        Checks.due("number(0, 1)", x.number(0, 1), 256);
        Checks.due("number(0, 2)", x.number(0, 2), 0);
        Checks.due("number(1, 63)", x.number(1, 63), 8);
        Checks.due("number(5, 0)", x.number(5, 0), 0);
        Checks.unchanged(x, "number(0, 3)", Checks.NO_SUCH, () -> x.number(0, 3));
        Checks.unchanged(x, "number(0, -1)", Checks.NO_SUCH, () -> x.number(0, -1));
        Checks.unchanged(x, "number(1, 64)", Checks.NO_SUCH, () -> x.number(1, 64));
        Checks.unchanged(x, "number(6, 0)", Checks.NO_SUCH, () -> x.number(6, 0));
        Checks.unchanged(x, "number(-1, 0)", Checks.NO_SUCH, () -> x.number(-1, 0));
    }

    private static void promise14Of() {
        Counted x = Checks.withRows(Checks.row(0, 256, 0, 200, 0), Checks.row(0, 0), Checks.all(64, 256));
        Checks.unchanged(x, "of(0, 0)", 5, () -> x.of(0, 0));
        Checks.unchanged(x, "of(0, 1)", 3, () -> x.of(0, 1));
        Checks.unchanged(x, "of(0, 2)", 2, () -> x.of(0, 2));
        Checks.unchanged(x, "of(0, 3)", 456, () -> x.of(0, 3));
        Checks.due("of(1, 0)", x.of(1, 0), 2);
        Checks.due("of(1, 1)", x.of(1, 1), Checks.NONE);
        Checks.due("of(1, 2)", x.of(1, 2), 0);
        Checks.due("of(1, 3)", x.of(1, 3), 0);
        Checks.due("of(2, 0)", x.of(2, 0), 64);
        Checks.due("of(2, 1)", x.of(2, 1), 63);
        Checks.due("of(2, 2)", x.of(2, 2), 64);
        Checks.due("of(2, 3)", x.of(2, 3), 64 * 256);
        Checks.due("of(5, 1)", x.of(5, 1), Checks.NONE);
    }

    private static void promise14OfRoots() {
        // (x - 1)(x - 2)(x - 3); x; 7; (x + 1)(x + 1); x^64 - 1 without x - 1
        Counted x = Checks.withRows(Checks.row(251, 11, 251, 1), Checks.row(0, 1), Checks.row(7),
                Checks.row(1, 2, 1), Checks.all(64, 1));
        Checks.unchanged(x, "of(0, 4)", 3, () -> x.of(0, 4));
        Checks.unchanged(x, "of(0, 5)", 1, () -> x.of(0, 5));
        Checks.due("of(1, 4)", x.of(1, 4), 1);
        Checks.due("of(1, 5)", x.of(1, 5), 0);
        Checks.due("of(2, 4)", x.of(2, 4), 0);
        Checks.due("of(2, 5)", x.of(2, 5), Checks.NONE);
        Checks.due("of(3, 4)", x.of(3, 4), 1);
        Checks.due("of(3, 5)", x.of(3, 5), 256);
        Checks.due("of(4, 4)", x.of(4, 4), 63);
        Checks.due("of(4, 5)", x.of(4, 5), 2);
        Checks.due("of(5, 4)", x.of(5, 4), 257);
        Checks.due("of(5, 5)", x.of(5, 5), 0);
    }

    private static void promise14OfErrors() {
        Counted x = new Counted();
        Checks.unchanged(x, "of(6, 0)", Checks.NO_SUCH, () -> x.of(6, 0));
        Checks.unchanged(x, "of(-1, 6)", Checks.NO_SUCH, () -> x.of(-1, 6));
        Checks.unchanged(x, "of(0, 6)", Checks.BAD_VALUE, () -> x.of(0, 6));
        Checks.unchanged(x, "of(0, -1)", Checks.BAD_VALUE, () -> x.of(0, -1));
    }

    private static void promise15Value() {
        Counted x = Checks.withRows(Checks.row(1, 2, 3), Checks.all(64, 256));
        Checks.unchanged(x, "value(0, 0)", 1, () -> x.value(0, 0));
        Checks.due("value(0, 1)", x.value(0, 1), 6);
        Checks.due("value(0, 10)", x.value(0, 10), 64);
        Checks.due("value(0, 256)", x.value(0, 256), 2);
        Checks.due("value(1, 1)", x.value(1, 1), 257 - 64);
        Checks.due("value(1, 256)", x.value(1, 256), 0);
        Checks.due("value(5, 0)", x.value(5, 0), 0);
        Checks.unchanged(x, "value(6, 257)", Checks.NO_SUCH, () -> x.value(6, 257));
        Checks.unchanged(x, "value(-1, 0)", Checks.NO_SUCH, () -> x.value(-1, 0));
        Checks.unchanged(x, "value(0, 257)", Checks.BAD_VALUE, () -> x.value(0, 257));
        Checks.unchanged(x, "value(0, -1)", Checks.BAD_VALUE, () -> x.value(0, -1));
    }

    private static void promise17Count() {
        Counted x = Checks.withRows(Checks.row(1, 2, 3), Checks.row(4, 5));
        Checks.type(x, "1,,");
        Checks.unchanged(x, "count(0)", 9, () -> x.count(0));
        Checks.unchanged(x, "count(1)", 3, () -> x.count(1));
        Checks.unchanged(x, "count(2)", 2, () -> x.count(2));
        Checks.unchanged(x, "count(3)", Checks.BAD_VALUE, () -> x.count(3));
        Checks.unchanged(x, "count(-1)", Checks.BAD_VALUE, () -> x.count(-1));
        for (int register = 0; register < 6; register++) {
            x.round(0, 0, 64, register);
        }
        Checks.due("count(0) of the longest", x.count(0), 6 * 64);
        Checks.due("count(2) of the most", x.count(2), 6);
    }
}
