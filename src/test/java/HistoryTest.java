/** Promises 24 to 26: undo, and saved states. */
final class HistoryTest {
    public static void main(String[] args) {
        promise24Undo();
        promise24UndoAtMostSix();
        promise24WhatIsRecorded();
        promise24WhatIsNotRecorded();
        promise25Save();
        promise26Restore();
        promise26RestoreErrors();
        Checks.end();
    }

    private static void promise24Undo() {
        Counted x = new Counted();
        Checks.unchanged(x, "undo of nothing", Checks.NOT_POSSIBLE, () -> x.undo());
        x.set(0, 0, 5);
        x.set(0, 1, 6);
        x.set(1, 0, 7);
        x.save(0);
        Checks.type(x, "1,2");
        Checks.due("undo", x.undo(), 2);
        Checks.dueRow("undo", x, 1, 0);
        Checks.dueRow("undo", x, 0, 5, 6);
        Checks.due("undo", x.undo(), 1);
        Checks.dueRow("undo", x, 0, 5);
        Checks.due("a new change", x.set(0, 0, 8), 1);
        Checks.due("count(2)", x.count(2), 2);
        Checks.due("undo", x.undo(), 1);
        Checks.dueRow("undo", x, 0, 5);
        Checks.due("undo", x.undo(), 0);
        Checks.dueRow("undo", x, 0, 0);
        Checks.due("the pad", x.count(1), 3);
        Checks.unchanged(x, "undo of nothing", Checks.NOT_POSSIBLE, () -> x.undo());
        Checks.due("the slot", x.restore(0), 7);
        Checks.dueRow("the slot", x, 0, 5, 6);
        Checks.dueRow("the slot", x, 1, 7);
    }

    private static void promise24UndoAtMostSix() {
        Counted x = new Counted();
        for (int number = 1; number <= 20; number++) {
            x.set(0, 0, number);
            Checks.due("count(2) after " + number, x.count(2), Math.min(number, 6));
        }
        for (int left = 5; left >= 3; left--) {
            Checks.due("undo", x.undo(), left);
            Checks.dueRow("undo", x, 0, 14 + left);
        }
        for (int number = 31; number <= 34; number++) {
            x.set(0, 0, number);
        }
        int[] before = {33, 32, 31, 17, 16, 15};
        for (int i = 0; i < 6; i++) {
            Checks.due("undo", x.undo(), 5 - i);
            Checks.dueRow("undo", x, 0, before[i]);
        }
        Checks.unchanged(x, "undo of nothing", Checks.NOT_POSSIBLE, () -> x.undo());
    }

    private static void promise24WhatIsRecorded() {
        Counted x = Checks.withRows(Checks.row(1));
        for (int i = 0; i < 3; i++) {
            Checks.due("set to the same", x.set(0, 0, 1), 1);
            Checks.due("count(2)", x.count(2), i + 2);
        }
        Counted y = Checks.withRows(Checks.row(1));
        y.save(1);
        y.undo();
        Checks.changes(y, "restore(1)", 6, () -> y.restore(1));
        Checks.changes(y, "add(0, 5, 1, 0)", 1, () -> y.add(0, 5, 1, 0));
        Checks.changes(y, "product(0, 0, 0)", 1, () -> y.product(0, 0, 0));
        Checks.changes(y, "round(0, 0, 1, 0)", 0, () -> y.round(0, 0, 1, 0));
        Checks.changes(y, "power(0, 1, 0)", 1, () -> y.power(0, 1, 0));
        Checks.changes(y, "inverse(0, 1, 0)", 0, () -> y.inverse(0, 1, 0));
        Checks.changes(y, "divide(0, 0, 0, 1)", Checks.NONE, () -> y.divide(0, 0, 0, 1));
        Checks.changes(y, "divisor(0, 0, 0)", 0, () -> y.divisor(0, 0, 0));
        Checks.changes(y, "turn(0, 1, 0)", 0, () -> y.turn(0, 1, 0));
        Checks.changes(y, "turnBack(0, 0)", 0, () -> y.turnBack(0, 0));
        Counted z = new Counted();
        Checks.type(z, "0");
        Checks.due("read(0)", z.read(0), 1);
        Checks.due("count(2)", z.count(2), 1);
    }

    private static void promise24WhatIsNotRecorded() {
        Counted x = Checks.withRows(Checks.row(1, 2), Checks.row(2));
        x.number(0, 0);
        x.of(0, 4);
        x.value(0, 3);
        x.turningPoint(4, 3);
        x.count(0);
        x.fits(0, 1);
        x.sum(0, 1, 0);
        x.found(0, 1, 2);
        x.put('1');
        x.fault();
        x.wipe();
        x.save(0);
        Checks.due("count(2)", x.count(2), 2);
        Checks.due("undo", x.undo(), 1);
        Checks.dueRow("undo", x, 1, 0);
        Checks.dueRow("undo", x, 0, 1, 2);
    }

    private static void promise25Save() {
        Counted x = Checks.withRows(Checks.row(1, 2, 3), Checks.row(4));
        Checks.type(x, "5,6");
        Checks.unchanged(x, "save(0)", 8, () -> x.save(0));
        Checks.unchanged(x, "save(-1)", Checks.BAD_VALUE, () -> x.save(-1));
        Checks.unchanged(x, "save(2)", Checks.BAD_VALUE, () -> x.save(2));
        Checks.due("read(1)", x.read(1), 2);
        Checks.due("save(1)", x.save(1), 9);
        Checks.due("restore(0)", x.restore(0), 8);
        Checks.dueRow("restore(0)", x, 1, 4);
        Checks.due("restore(1)", x.restore(1), 9);
        Checks.dueRow("restore(1)", x, 1, 5, 6);
        x.set(0, 3, 9);
        Checks.due("save(0) over it", x.save(0), 10);
        x.set(0, 0, 8);
        Checks.due("restore(0)", x.restore(0), 10);
        Checks.dueRow("restore(0)", x, 0, 1, 2, 3, 9);
    }

    private static void promise26Restore() {
        Counted x = Checks.withRows(Checks.row(1, 2, 3), Checks.row(4));
        Checks.type(x, "5,6");
        x.save(1);
        x.round(0, 0, 64, 0);
        Checks.changes(x, "restore(1)", 8, () -> x.restore(1));
        Checks.dueRow("restore(1)", x, 0, 1, 2, 3);
        Checks.due("the pad", x.count(1), 3);
        x.set(0, 0, 99);
        Checks.due("restore(1) again", x.restore(1), 8);
        Checks.dueRow("the slot keeps it", x, 0, 1, 2, 3);
        Checks.due("count(2)", x.count(2), 6);
        Checks.due("undo of restore", x.undo(), 5);
        Checks.dueRow("undo of restore", x, 0, 99, 2, 3);
        Checks.due("undo", x.undo(), 4);
        Checks.dueRow("undo", x, 0, 1, 2, 3);
        Checks.due("undo of the first restore", x.undo(), 3);
        Checks.due("undo of the first restore: length", x.of(0, 0), 64);
        Checks.due("restore(1) after undo", x.restore(1), 8);
        Checks.dueRow("restore(1) after undo", x, 0, 1, 2, 3);
    }

    private static void promise26RestoreErrors() {
        Counted x = Checks.withRows(Checks.row(1, 2));
        Checks.unchanged(x, "restore(-1)", Checks.BAD_VALUE, () -> x.restore(-1));
        Checks.unchanged(x, "restore(2)", Checks.BAD_VALUE, () -> x.restore(2));
        Checks.unchanged(x, "restore(0)", Checks.NOT_POSSIBLE, () -> x.restore(0));
        x.save(0);
        Checks.unchanged(x, "restore(1)", Checks.NOT_POSSIBLE, () -> x.restore(1));
        Checks.due("restore(0)", x.restore(0), 7);
    }
}
