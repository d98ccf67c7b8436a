import java.util.ArrayList;

/** The boundary cases of the promises 24 to 26, and of what the document says ahead of all promises. */
final class HistoryBoundariesTest {
    private static final int LEAST = Integer.MIN_VALUE;
    private static final int GREATEST = Integer.MAX_VALUE;

    public static void main(String[] args) {
        objectIsUsedForAtMost512Calls();
        eachMethodAsThe512thCall();
        promise24NoneToUndo();
        promise24NoneToUndoLeavesTheSlots();
        promise24AtMostSixStates();
        promise24SeventhDropsTheOldest();
        promise24AFullHistoryGoesOn();
        promise24EachChangeIsRecorded();
        promise24AlsoIfNothingIsDifferent();
        promise24RefusedCallsAreNotRecorded();
        promise24OtherCallsAreNotRecorded();
        promise24ExceptThePadTheSlotsAndTheHistory();
        promise24UndoIsNoChange();
        promise25Slots();
        promise25OverwritesWhatWasSaved();
        promise25SlotsAreApart();
        promise25KeepsWhatIsChangedLater();
        promise25ExceptThePadAndTheHistory();
        promise26Slots();
        promise26NothingSaved();
        promise26TheSlotKeepsIt();
        promise26IsAChange();
        promise26ExceptThePadAndTheHistory();
        promise26FirstErrorFirst();
        Checks.end();
    }

    // ---- "An object is used for at most 512 calls after it has been made": the last ones are still right.

    private static void objectIsUsedForAtMost512Calls() {
        Counted changes = new Counted();
        for (int call = 0; call < 506; call++) {
            Checks.due("change " + call, changes.set(0, 0, call % 257), 1);
        }
        for (int left = 5; left >= 1; left--) {
            Checks.due("undo of the last calls", changes.undo(), left);
        }
        Checks.dueCalls(changes, 1);
        Checks.due("the 512th call", changes.number(0, 0), 500 % 257);
        Counted undone = new Counted();
        for (int call = 0; call < 255; call++) {
            undone.product(0, 1, 2);
            Checks.due("undo of the call " + call, undone.undo(), 0);
        }
        undone.set(2, 0, 3);
        Checks.dueCalls(undone, 1);
        Checks.due("the 512th call", undone.undo(), 0);
        Counted texts = new Counted();
        for (int call = 0; call < 255; call++) {
            texts.put('7');
            Checks.due("read of the call " + call, texts.read(call % 6), 1);
        }
        texts.put('7');
        Checks.dueCalls(texts, 1);
        Checks.due("the 512th call", texts.fault(), Checks.NONE);
        Counted slots = new Counted();
        for (int call = 0; call < 256; call++) {
            Checks.due("save of the call " + call, slots.save(call % 2), 6);
            Checks.due("restore of the call " + call, slots.restore(call % 2), 6);
        }
        Checks.dueCalls(slots, 0);
    }

    /** Each method as the last call that an object is used for: the register 0 is 1,2,3, the register 1 is 4,5. */
    private static void eachMethodAsThe512thCall() {
        dueAsThe512thCall("put", 4, x -> x.put('8'));
        dueAsThe512thCall("wipe", 3, x -> x.wipe());
        dueAsThe512thCall("fault", Checks.NONE, x -> x.fault());
        dueAsThe512thCall("read", 2, x -> x.read(5));
        dueAsThe512thCall("set", 4, x -> x.set(0, 3, 9));
        dueAsThe512thCall("add", 3, x -> x.add(0, 1, 256, 5));
        dueAsThe512thCall("product", 4, x -> x.product(0, 1, 5));
        dueAsThe512thCall("round", 2, x -> x.round(0, 1, 3, 5));
        dueAsThe512thCall("power", 13, x -> x.power(0, 6, 5));
        dueAsThe512thCall("inverse", 63, x -> x.inverse(0, 64, 5));
        dueAsThe512thCall("divide", 0, x -> x.divide(0, 1, 4, 5));
        dueAsThe512thCall("divisor", 0, x -> x.divisor(0, 1, 5));
        dueAsThe512thCall("turn", 1, x -> x.turn(0, 64, 5));
        dueAsThe512thCall("turnBack", 1, x -> x.turnBack(1, 5));
        dueAsThe512thCall("number", 3, x -> x.number(0, 2));
        dueAsThe512thCall("of", 9, x -> x.of(1, 3));
        dueAsThe512thCall("value", 64, x -> x.value(0, 10));
        dueAsThe512thCall("turningPoint", 193, x -> x.turningPoint(64, 1000));
        dueAsThe512thCall("count", 9, x -> x.count(0));
        dueAsThe512thCall("fits", 0, x -> x.fits(0, 1));
        dueAsThe512thCall("sum", 4 * 9 + 5 * 2 * 9, x -> x.sum(0, 1, 0));
        dueAsThe512thCall("found", 0, x -> x.found(0, 1, 0));
        dueAsThe512thCall("undo", 5, x -> x.undo());
        dueAsThe512thCall("save", 9, x -> x.save(1));
        dueAsThe512thCall("restore", 9, x -> x.restore(0));
    }

    private static void dueAsThe512thCall(String name, long want, Checks.Call answer) {
        Counted x = Checks.withRows(Checks.row(1, 2, 3), Checks.row(4, 5));
        x.save(0);
        Checks.type(x, "6,7");
        while (x.callsLeft() > 1) {
            Checks.due("set before " + name, x.set(4, 0, x.callsLeft() % 257), 1);
        }
        Checks.due(name + " as the 512th call", answer.on(x), want);
        Checks.dueCalls(x, 0);
    }

    // ---- promise 24: undo

    /** "NOT_POSSIBLE if there is none": of a new object, and after the last one. */
    private static void promise24NoneToUndo() {
        Checks.leaves(Counted::new, "undo of none", Checks.NOT_POSSIBLE, x -> x.undo());
        Checks.Maker undone = () -> {
            Counted x = Checks.full();
            for (int i = 0; i < 6; i++) {
                x.undo();
            }
            return x;
        };
        Checks.leaves(undone, "undo of none after six", Checks.NOT_POSSIBLE, x -> x.undo());
        for (int register = 0; register < 6; register++) {
            int longer = register;
            Checks.leaves(() -> undoneToALongerRow(longer), "undo of none, the longer row " + longer,
                    Checks.NOT_POSSIBLE, x -> x.undo());
        }
        Counted x = new Counted();
        x.set(0, 0, 1);
        Checks.due("undo of one", x.undo(), 0);
        Checks.due("undo of none", x.undo(), Checks.NOT_POSSIBLE);
        x.set(0, 0, 2);
        Checks.due("count(2) after it", x.count(2), 1);
        Checks.due("undo of one again", x.undo(), 0);
        Checks.dueRow("undo of one again", x, 0, 0);
    }

    /** The same for the slots: Checks.everything would not see it, since it makes such an undo itself. */
    private static void promise24NoneToUndoLeavesTheSlots() {
        Counted refused = Checks.fullOfLongSlots();
        Counted other = Checks.fullOfLongSlots();
        for (int left = 5; left >= 0; left--) {
            Checks.due("undo", refused.undo(), left);
            Checks.due("undo", other.undo(), left);
        }
        Checks.due("undo of none", refused.undo(), Checks.NOT_POSSIBLE);
        Checks.dueText("the rows after an undo of none", allDigests(refused), allDigests(other));
        for (int slot = 0; slot < 2; slot++) {
            refused.restore(slot);
            other.restore(slot);
            Checks.dueText("the slot " + slot + " after an undo of none", allDigests(refused), allDigests(other));
        }
    }

    /** Seven changes, the first of which makes a row longer, and is the oldest one; six undos. */
    private static Counted undoneToALongerRow(int register) {
        Counted x = new Counted();
        x.round(register, register, 9, register);
        x.save(1);
        for (int change = 0; change < 6; change++) {
            x.set(register, change, 5);
        }
        for (int undo = 0; undo < 6; undo++) {
            x.undo();
        }
        Checks.type(x, "7,8");
        return x;
    }

    /** "A history of at most 6 states": each number of changes up to 6 can be undone, to the first state. */
    private static void promise24AtMostSixStates() {
        for (int changes = 0; changes <= 6; changes++) {
            Counted x = new Counted();
            for (int change = 1; change <= changes; change++) {
                x.set(0, 0, change);
                Checks.due("count(2) after " + change, x.count(2), change);
            }
            for (int left = changes - 1; left >= 0; left--) {
                Checks.due("undo of " + changes, x.undo(), left);
                Checks.dueRow("undo of " + changes, x, 0, left);
            }
            Checks.due("undo of none of " + changes, x.undo(), Checks.NOT_POSSIBLE);
        }
    }

    /** "when one more is recorded, the oldest one is dropped", and only that. */
    private static void promise24SeventhDropsTheOldest() {
        for (int changes = 7; changes <= 14; changes++) {
            Counted x = new Counted();
            for (int change = 1; change <= changes; change++) {
                x.set(0, 0, change);
            }
            Checks.due("count(2) after " + changes, x.count(2), 6);
            for (int left = 5; left >= 0; left--) {
                Checks.due("undo of " + changes, x.undo(), left);
                Checks.dueRow("undo of " + changes, x, 0, changes - 6 + left);
            }
            Checks.due("undo too many of " + changes, x.undo(), Checks.NOT_POSSIBLE);
            Checks.dueRow("undo too many of " + changes, x, 0, changes - 6);
        }
    }

    /** Changes and undos in turns where the history is full, or was: what is undone is what was there before. */
    private static void promise24AFullHistoryGoesOn() {
        for (int undos = 1; undos <= 6; undos++) {
            Counted x = new Counted();
            ArrayList<Integer> before = new ArrayList<>();
            for (int change = 1; change <= 8; change++) {
                before.add(x.number(0, 0));
                x.set(0, 0, change);
            }
            for (int undo = 0; undo < undos; undo++) {
                x.undo();
                before.remove(before.size() - 1);
            }
            for (int change = 0; change < undos; change++) {
                before.add(x.number(0, 0));
                x.set(0, 0, 100 + change);
            }
            Checks.due("count(2) after " + undos + " undos", x.count(2), 6);
            for (int left = 5; left >= 0; left--) {
                Checks.due("undo after " + undos + " undos", x.undo(), left);
                Checks.dueRow("undo after " + undos + " undos", x, 0, before.remove(before.size() - 1));
            }
            Checks.due("undo too many after " + undos + " undos", x.undo(), Checks.NOT_POSSIBLE);
        }
    }

    private static String[] changeNames() {
        return new String[] {"read", "set", "add", "product", "round", "power", "inverse", "divide", "divisor", "turn",
            "turnBack", "restore"};
    }

    /** A change by its name, of small rows, that makes the register 0, or one that is refused. */
    private static Checks.Call change(String name) {
        return switch (name) {
            case "read" -> x -> x.read(0);
            case "set" -> x -> x.set(0, 1, 77);
            case "add" -> x -> x.add(0, 3, 1, 0);
            case "product" -> x -> x.product(0, 3, 0);
            case "round" -> x -> x.round(0, 3, 2, 0);
            case "power" -> x -> x.power(0, 2, 0);
            case "inverse" -> x -> x.inverse(0, 2, 0);
            case "divide" -> x -> x.divide(3, 0, 0, 2);
            case "divisor" -> x -> x.divisor(3, 2, 0);
            case "turn" -> x -> x.turn(3, 4, 0);
            case "turnBack" -> x -> x.turnBack(3, 0);
            default -> x -> x.restore(0);
        };
    }

    /** "each method that is a change, and returns no error, records the state before it". */
    private static void promise24EachChangeIsRecorded() {
        for (String name : changeNames()) {
            Counted x = Checks.full();
            x.undo();
            x.undo();
            String before = allDigests(x);
            long answer = change(name).on(x);
            Checks.due(name + " returns no error", answer >= 0 || answer == Checks.NONE ? 1 : 0, 1);
            Checks.due(name + ": count(2)", x.count(2), 5);
            Checks.due(name + " makes something different", allDigests(x).equals(before) ? 0 : 1, 1);
            Checks.due(name + ": undo", x.undo(), 4);
            Checks.dueText(name + ": the rows after undo", allDigests(x), before);
        }
    }

    private static String allDigests(Counted x) {
        StringBuilder text = new StringBuilder();
        for (int register = 0; register < 6; register++) {
            text.append(Checks.digest(x, register)).append(' ');
        }
        return text.toString();
    }

    /** "(also if nothing is different then)". */
    private static void promise24AlsoIfNothingIsDifferent() {
        Checks.Call[] same = {
            x -> x.set(0, 0, 1), x -> x.add(0, 5, 0, 0), x -> x.product(0, 0, 0), x -> x.round(0, 0, 1, 0),
            x -> x.power(0, 1, 0), x -> x.inverse(0, 1, 0), x -> x.divide(0, 0, 0, 1), x -> x.divisor(0, 0, 0),
            x -> x.turn(0, 1, 0), x -> x.turnBack(0, 0), x -> x.restore(0), x -> readAgain(x)};
        for (int i = 0; i < same.length; i++) {
            Counted x = new Counted();
            x.set(0, 0, 1);
            x.save(0);
            String before = allDigests(x);
            for (int times = 2; times <= 8; times++) {
                long answer = same[i].on(x);
                Checks.due("same " + i + " returns no error", answer >= 0 || answer == Checks.NONE ? 1 : 0, 1);
                Checks.due("same " + i + ": count(2)", x.count(2), Math.min(times, 6));
            }
            Checks.dueText("same " + i + ": the rows", allDigests(x), before);
            x.undo();
            Checks.due("same " + i + ": count(2) after undo", x.count(2), 5);
            Checks.dueText("same " + i + ": the rows after undo", allDigests(x), before);
        }
    }

    private static long readAgain(Counted x) {
        x.put('1');
        return x.read(0);
    }

    /** A refused call drops nothing of a full history, and records nothing in one that is not full. */
    private static void promise24RefusedCallsAreNotRecorded() {
        Checks.Call[] refused = {
            x -> x.read(6), x -> x.set(0, 0, 257), x -> x.add(0, 0, 257, 0), x -> x.product(4, 4, 0),
            x -> x.round(0, 0, 65, 0), x -> x.power(4, 2, 0), x -> x.inverse(1, 1, 0), x -> x.divide(0, 1, 2, 3),
            x -> x.divisor(1, 1, 0), x -> x.turn(4, 32, 0), x -> x.turnBack(5, 0), x -> x.restore(2)};
        for (int i = 0; i < refused.length; i++) {
            Counted x = Checks.full();
            Checks.due("refused " + i, refused[i].on(x) < 0 ? 1 : 0, 1);
            Checks.due("refused " + i + ": count(2) of a full history", x.count(2), 6);
            x.undo();
            x.undo();
            x.round(1, 1, 40, 5);
            Checks.due("refused " + i + " again", refused[i].on(x) < 0 ? 1 : 0, 1);
            Checks.due("refused " + i + ": count(2) of another one", x.count(2), 5);
            for (int left = 4; left >= 0; left--) {
                Checks.due("refused " + i + ": undo", x.undo(), left);
            }
            Checks.dueRow("refused " + i + ": the oldest state", x, 0, 1, 9, 3);
            Checks.dueRow("refused " + i + ": the oldest state", x, 1, 0);
        }
    }

    private static void promise24OtherCallsAreNotRecorded() {
        Checks.Call[] others = {
            x -> x.number(0, 0), x -> x.of(0, 5), x -> x.value(0, 256), x -> x.turningPoint(64, 1000), x -> x.count(0),
            x -> x.fits(0, 2), x -> x.sum(0, 2, 2), x -> x.found(0, 2, 3), x -> x.put('9'), x -> x.fault(), x -> x.wipe(),
            x -> x.save(0), x -> x.save(1)};
        for (int i = 0; i < others.length; i++) {
            Counted x = new Counted();
            x.set(2, 0, 5);
            others[i].on(x);
            Checks.due("other " + i + ": count(2)", x.count(2), 1);
            Checks.due("other " + i + ": undo", x.undo(), 0);
            Checks.dueRow("other " + i + ": undo", x, 2, 0);
            others[i].on(x);
            Checks.due("other " + i + ": count(2) of none", x.count(2), 0);
        }
    }

    /** "everything except the pad, the slots and the history is as it was before it". */
    private static void promise24ExceptThePadTheSlotsAndTheHistory() {
        Counted x = new Counted();
        x.save(0);
        x.set(0, 0, 1);
        Checks.type(x, "8,9");
        x.save(0);
        x.save(1);
        x.set(0, 1, 2);
        Checks.due("undo", x.undo(), 1);
        Checks.due("undo", x.undo(), 0);
        Checks.dueRow("undo", x, 0, 0);
        Checks.due("the pad", x.count(1), 3);
        Checks.due("restore(0)", x.restore(0), 6);
        Checks.dueRow("restore(0)", x, 0, 1);
        Checks.due("restore(1)", x.restore(1), 6);
        Checks.dueRow("restore(1)", x, 0, 1);
        Checks.due("undo of both", x.undo() + x.undo(), 1);
        Checks.due("read(5)", x.read(5), 2);
        Checks.dueRow("read(5)", x, 5, 8, 9);
        x.wipe();
        x.undo();
        Checks.due("the pad, wiped before", x.count(1), 0);
        Checks.dueRow("undo of read", x, 5, 0);
    }

    /** What was undone does not come back by another undo. */
    private static void promise24UndoIsNoChange() {
        Counted x = new Counted();
        for (int change = 1; change <= 3; change++) {
            x.set(0, 0, change);
        }
        Checks.due("undo", x.undo(), 2);
        Checks.due("undo", x.undo(), 1);
        Checks.dueRow("two undos", x, 0, 1);
        Checks.due("count(2)", x.count(2), 1);
    }

    // ---- promise 25: save

    /** "slot: 0 or 1". */
    private static void promise25Slots() {
        for (int slot : new int[] {-1, 2, 3, LEAST, GREATEST}) {
            Checks.refused("save(" + slot + ")", Checks.BAD_VALUE, x -> x.save(slot));
        }
        Counted x = new Counted();
        Checks.due("save(0) of the shortest rows", x.save(0), 6);
        for (int register = 0; register < 6; register++) {
            x.round(register, register, 64, register);
        }
        Checks.due("save(1) of the longest rows", x.save(1), 384);
        Checks.due("restore(0)", x.restore(0), 6);
        Checks.due("restore(1)", x.restore(1), 384);
    }

    /** "and overwrites what was saved there". */
    private static void promise25OverwritesWhatWasSaved() {
        for (int slot = 0; slot < 2; slot++) {
            Counted x = new Counted();
            for (int number = 1; number <= 3; number++) {
                x.set(0, number - 1, number);
                Checks.due("save(" + slot + ") of " + number, x.save(slot), 5 + number);
            }
            x.set(0, 0, 9);
            Checks.due("restore(" + slot + ")", x.restore(slot), 8);
            Checks.dueRow("restore(" + slot + ")", x, 0, 1, 2, 3);
            x.undo();
            Checks.dueRow("undo of restore(" + slot + ")", x, 0, 9, 2, 3);
        }
    }

    private static void promise25SlotsAreApart() {
        Counted x = new Counted();
        x.set(0, 0, 1);
        x.save(0);
        x.set(0, 0, 2);
        x.save(1);
        x.set(0, 0, 3);
        x.restore(0);
        Checks.dueRow("restore(0)", x, 0, 1);
        x.restore(1);
        Checks.dueRow("restore(1)", x, 0, 2);
        x.restore(0);
        x.save(1);
        x.set(0, 0, 4);
        x.restore(1);
        Checks.dueRow("restore(1) of what restore(0) gave", x, 0, 1);
        x.set(0, 0, 5);
        x.save(0);
        x.restore(1);
        Checks.dueRow("restore(1) after save(0)", x, 0, 1);
    }

    /** What is changed, undone or restored later does not change what was saved. */
    private static void promise25KeepsWhatIsChangedLater() {
        for (String name : changeNames()) {
            Counted x = Checks.full();
            x.save(1);
            String saved = allDigests(x);
            change(name).on(x);
            x.undo();
            x.undo();
            x.undo();
            Checks.due(name + ": restore(1)", x.restore(1), 3 + 2 + 1 + 2 + 64 + 33);
            Checks.dueText(name + ": what was saved", allDigests(x), saved);
        }
    }

    private static void promise25ExceptThePadAndTheHistory() {
        Counted x = Checks.full();
        Checks.due("count(2) before", x.count(2), 6);
        x.save(0);
        Checks.due("count(1)", x.count(1), 3);
        Checks.due("count(2)", x.count(2), 6);
        Checks.due("undo after save", x.undo(), 5);
        x.wipe();
        x.restore(0);
        Checks.due("count(1) after restore", x.count(1), 0);
        Checks.due("count(2) after restore", x.count(2), 6);
    }

    // ---- promise 26: restore

    /** "slot: 0 or 1". */
    private static void promise26Slots() {
        for (int slot : new int[] {-1, 2, 3, LEAST, GREATEST}) {
            Checks.refused("restore(" + slot + ")", Checks.BAD_VALUE, x -> x.restore(slot));
        }
        Checks.due("restore(0)", Checks.full().restore(0), 3 + 5);
        Checks.due("restore(1)", Checks.full().restore(1), 3 + 2 + 1 + 2 + 1 + 1);
    }

    /** "NOT_POSSIBLE if nothing was saved in it": in neither, and only in the other one. */
    private static void promise26NothingSaved() {
        Checks.leaves(Counted::new, "restore(0)", Checks.NOT_POSSIBLE, x -> x.restore(0));
        Checks.leaves(Counted::new, "restore(1)", Checks.NOT_POSSIBLE, x -> x.restore(1));
        Checks.leaves(() -> Checks.full(false, false), "restore(0) of none", Checks.NOT_POSSIBLE, x -> x.restore(0));
        Checks.leaves(() -> Checks.full(false, false), "restore(1) of none", Checks.NOT_POSSIBLE, x -> x.restore(1));
        Checks.leaves(() -> Checks.full(false, true), "restore(0) of 1", Checks.NOT_POSSIBLE, x -> x.restore(0));
        Checks.leaves(() -> Checks.full(true, false), "restore(1) of 0", Checks.NOT_POSSIBLE, x -> x.restore(1));
        Checks.due("restore(0) of 0", Checks.full(true, false).restore(0), 3 + 5);
        Checks.due("restore(1) of 1", Checks.full(false, true).restore(1), 3 + 2 + 1 + 2 + 1 + 1);
        for (int saved = 0; saved < 2; saved++) {
            Counted x = Checks.withRows(Checks.row(1, 2));
            x.save(saved);
            x.set(0, 0, 9);
            Checks.due("restore(" + (1 - saved) + ") of the other one", x.restore(1 - saved), Checks.NOT_POSSIBLE);
            Checks.dueRow("restore(" + (1 - saved) + ") of the other one", x, 0, 9, 2);
            Checks.due("restore(" + saved + ") then", x.restore(saved), 7);
            Checks.dueRow("restore(" + saved + ") then", x, 0, 1, 2);
        }
        // What is saved is a state also if it is that of a new object.
        Checks.leaves(() -> {
            Counted x = new Counted();
            x.save(0);
            return x;
        }, "restore(1)", Checks.NOT_POSSIBLE, x -> x.restore(1));
    }

    /** "Restores what was saved last in a slot, which keeps it": as often as one likes, and after changes. */
    private static void promise26TheSlotKeepsIt() {
        Counted x = new Counted();
        x.set(0, 0, 5);
        x.set(0, 1, 6);
        x.save(0);
        for (int times = 0; times < 10; times++) {
            x.set(0, 0, 100 + times);
            x.set(0, 2, 7);
            Checks.due("restore(0), " + times, x.restore(0), 7);
            Checks.dueRow("restore(0), " + times, x, 0, 5, 6);
        }
        x.undo();
        Checks.dueRow("undo of restore(0)", x, 0, 109, 6, 7);
        Checks.due("restore(0) after undo", x.restore(0), 7);
        Checks.dueRow("restore(0) after undo", x, 0, 5, 6);
    }

    /** "This is a change": it is recorded, also in a full history, and undone. */
    private static void promise26IsAChange() {
        Counted x = Checks.full();
        String before = allDigests(x);
        Checks.due("restore(0)", x.restore(0), 8);
        Checks.due("count(2) then", x.count(2), 6);
        Checks.due("undo", x.undo(), 5);
        Checks.dueText("undo", allDigests(x), before);
        Counted y = new Counted();
        y.save(1);
        Checks.due("restore(1) where nothing is different", y.restore(1), 6);
        Checks.due("count(2) then", y.count(2), 1);
        Checks.due("undo", y.undo(), 0);
    }

    private static void promise26ExceptThePadAndTheHistory() {
        Counted x = new Counted();
        Checks.type(x, "1,2");
        x.save(0);
        x.wipe();
        Checks.type(x, "3,4,5");
        x.set(0, 0, 1);
        x.set(0, 0, 2);
        Checks.due("restore(0)", x.restore(0), 6);
        Checks.due("the pad is that of now", x.count(1), 5);
        Checks.due("the history goes on", x.count(2), 3);
        Checks.due("undo", x.undo(), 2);
        Checks.dueRow("undo", x, 0, 2);
        Checks.due("undo", x.undo(), 1);
        Checks.dueRow("undo", x, 0, 1);
        Checks.due("read(1)", x.read(1), 3);
        Checks.dueRow("read(1)", x, 1, 3, 4, 5);
    }

    private static void promise26FirstErrorFirst() {
        Checks.leaves(Counted::new, "restore(-1)", Checks.BAD_VALUE, x -> x.restore(-1));
        Checks.leaves(Counted::new, "restore(2)", Checks.BAD_VALUE, x -> x.restore(2));
        Checks.leaves(Counted::new, "save(-1)", Checks.BAD_VALUE, x -> x.save(-1));
        Checks.leaves(Counted::new, "save(2)", Checks.BAD_VALUE, x -> x.save(2));
    }
}
