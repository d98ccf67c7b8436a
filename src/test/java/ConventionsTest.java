import java.util.ArrayList;
import java.util.List;
import java.util.TreeSet;

/**
 * What the document's CONVENTIONS say, tried on every error that a method names, and "nothing changes", on every call of
 * which it is said. What such a call could leave beyond the end of a row is seen only when the row becomes longer: this
 * is tried here, for the rows and for both slots.
 */
final class ConventionsTest {
    private static final int NO_SUCH = Checks.NO_SUCH, BAD_VALUE = Checks.BAD_VALUE, BAD_TEXT = Checks.BAD_TEXT,
            TOO_MANY = Checks.TOO_MANY, NOT_POSSIBLE = Checks.NOT_POSSIBLE;

    /** The errors that each method names, in its order; wipe and fault name none. */
    private static final String[] NAMED = {
        "read -1 -3", "set -1 -2 -4", "add -1 -2", "product -1 -4", "round -1 -2", "power -1 -2 -4", "inverse -1 -2 -5",
        "divide -1 -2 -5", "divisor -1 -5", "turn -1 -2 -5", "turnBack -1 -5", "number -1", "of -1 -2", "value -1 -2",
        "turningPoint -2", "count -2", "fits -1 -5", "sum -1 -5 -2", "found -1 -5 -2", "put -2 -4", "undo -5", "save -2",
        "restore -2 -5"};

    /** A call that changes nothing, and what it answers for each of the makers' objects, when they are made ready. */
    private record Unchanging(String method, long answer, Checks.Call ready, Checks.Call call) {
        String name() {
            return method + " that answers " + answer;
        }

        Counted readyOne(Checks.Maker maker) {
            Counted x = maker.make();
            ready.on(x);
            return x;
        }
    }

    /** Objects of the same rows: with long rows in both slots, with one slot that is empty, and with two. */
    private static final List<Checks.Maker> MAKERS = List.of(Checks::fullOfLongSlots, () -> Checks.full(true, false),
            () -> Checks.full(false, true), () -> Checks.full(false, false));

    private final List<Unchanging> all = new ArrayList<>();

    public static void main(String[] args) {
        ConventionsTest test = new ConventionsTest();
        test.addChanges();
        test.addReadings();
        test.addOthers();
        test.eachErrorThatIsNamedIsTried();
        test.addAnswers();
        for (Unchanging one : test.all) {
            changesNothing(one);
            leavesNothingBeyondTheEnd(one);
            leavesNothingBeyondTheEndOfSavedRows(one, 0);
            leavesNothingBeyondTheEndOfSavedRows(one, 1);
        }
        Checks.end();
    }

    private void add(String method, long answer, Checks.Call call) {
        add(method, answer, x -> 0, call);
    }

    private void add(String method, long answer, Checks.Call ready, Checks.Call call) {
        all.add(new Unchanging(method, answer, ready, call));
    }

    private void addChanges() {
        add("read", NO_SUCH, x -> x.read(6));
        add("read", BAD_TEXT, x -> x.put(','), x -> x.read(0));
        add("set", NO_SUCH, x -> x.set(0, 4, 1));
        add("set", BAD_VALUE, x -> x.set(0, 3, 257));
        add("set", TOO_MANY, x -> x.set(4, 64, 1));
        add("add", NO_SUCH, x -> x.add(0, 6, 1, 2));
        add("add", BAD_VALUE, x -> x.add(0, 5, 257, 2));
        add("product", NO_SUCH, x -> x.product(0, 5, 6));
        add("product", TOO_MANY, x -> x.product(4, 5, 0));
        add("round", NO_SUCH, x -> x.round(-1, 5, 64, 0));
        add("round", BAD_VALUE, x -> x.round(4, 5, 65, 0));
        add("power", NO_SUCH, x -> x.power(0, 9, 6));
        add("power", BAD_VALUE, x -> x.power(0, 10, 2));
        add("power", TOO_MANY, x -> x.power(5, 2, 0));
        add("inverse", NO_SUCH, x -> x.inverse(6, 64, 0));
        add("inverse", BAD_VALUE, x -> x.inverse(0, 65, 2));
        add("inverse", NOT_POSSIBLE, x -> x.inverse(3, 64, 0));
        add("divide", NO_SUCH, x -> x.divide(4, 0, 2, 6));
        add("divide", BAD_VALUE, x -> x.divide(4, 0, 2, 2));
        add("divide", NOT_POSSIBLE, x -> x.divide(4, 1, 2, 3));
        add("divisor", NO_SUCH, x -> x.divisor(4, 0, -1));
        add("divisor", NOT_POSSIBLE, x -> x.divisor(1, 1, 0));
        add("turn", NO_SUCH, x -> x.turn(0, 64, 6));
        add("turn", BAD_VALUE, x -> x.turn(0, 65, 2));
        add("turn", NOT_POSSIBLE, x -> x.turn(4, 32, 0));
        add("turnBack", NO_SUCH, x -> x.turnBack(4, 6));
        add("turnBack", NOT_POSSIBLE, x -> x.turnBack(5, 0));
    }

    private void addReadings() {
        add("number", NO_SUCH, x -> x.number(0, 3));
        add("of", NO_SUCH, x -> x.of(6, 5));
        add("of", BAD_VALUE, x -> x.of(4, 6));
        add("value", NO_SUCH, x -> x.value(6, 256));
        add("value", BAD_VALUE, x -> x.value(4, 257));
        add("turningPoint", BAD_VALUE, x -> x.turningPoint(65, 1000));
        add("count", BAD_VALUE, x -> x.count(3));
        add("fits", NO_SUCH, x -> x.fits(4, 6));
        add("fits", NOT_POSSIBLE, x -> x.fits(5, 4));
        add("sum", NO_SUCH, x -> x.sum(6, 0, 0));
        add("sum", NOT_POSSIBLE, x -> x.sum(5, 4, 0));
        add("sum", BAD_VALUE, x -> x.sum(4, 5, 32));
        add("found", NO_SUCH, x -> x.found(4, -1, 0));
        add("found", NOT_POSSIBLE, x -> x.found(5, 4, 0));
        add("found", BAD_VALUE, x -> x.found(4, 5, 4));
    }

    private void addOthers() {
        add("put", BAD_VALUE, x -> x.put(127));
        add("put", TOO_MANY, x -> {
            x.wipe();
            Checks.type(x, "1,".repeat(40));
            return 0;
        }, x -> x.put('1'));
        add("undo", NOT_POSSIBLE, x -> {
            while (x.undo() > 0) {
                x.count(2);
            }
            return 0;
        }, x -> x.undo());
        add("save", BAD_VALUE, x -> x.save(2));
        add("restore", BAD_VALUE, x -> x.restore(-1));
    }

    /** "what there is; nothing changes", "searching; nothing changes", and the fault, which is only told. */
    private void addAnswers() {
        add("number", 3, x -> x.number(0, 2));
        int[] of = {33, 4, 5, 1 + 18 + 87 + 54 + 9, 0, Checks.NONE};
        for (int what = 0; what < 6; what++) {
            int asked = what;
            add("of", of[what], x -> x.of(5, asked));
        }
        add("value", 6, x -> x.value(0, 1));
        add("turningPoint", 193, x -> x.turningPoint(64, 1000));
        add("count", 105, x -> x.count(0));
        add("count", 3, x -> x.count(1));
        add("count", 6, x -> x.count(2));
        add("fits", 0b11, x -> x.fits(0, 1));
        add("sum", 12, x -> x.sum(0, 3, 1));
        add("found", 32, x -> x.found(0, 3, 3));
        add("fault", Checks.NONE, x -> x.fault());
    }

    /** "it names its errors": the one error that needs an empty slot is tried by HistoryBoundariesTest. */
    private void eachErrorThatIsNamedIsTried() {
        TreeSet<String> tried = new TreeSet<>(List.of("restore -5"));
        for (Unchanging refused : all) {
            tried.add(refused.method + " " + refused.answer);
        }
        TreeSet<String> due = new TreeSet<>();
        for (String method : NAMED) {
            String[] words = method.split(" ");
            for (int i = 1; i < words.length; i++) {
                due.add(words[0] + " " + words[i]);
            }
        }
        Checks.dueText("the errors that are tried", tried.toString(), due.toString());
    }

    /** "A call that returns an error changes nothing." */
    private static void changesNothing(Unchanging one) {
        for (int i = 0; i < MAKERS.size(); i++) {
            Checks.Maker maker = MAKERS.get(i);
            Checks.leaves(() -> one.readyOne(maker), one.name() + ", maker " + i, one.answer, one.call);
        }
    }

    private static void leavesNothingBeyondTheEnd(Unchanging one) {
        Counted x = one.readyOne(MAKERS.get(0));
        Checks.due(one.name(), one.call.on(x), one.answer);
        dueNothingBeyond(one.name(), x);
    }

    private static void leavesNothingBeyondTheEndOfSavedRows(Unchanging one, int slot) {
        Counted x = one.readyOne(MAKERS.get(0));
        one.call.on(x);
        x.restore(slot);
        dueNothingBeyond(one.name() + ", slot " + slot, x);
    }

    /** Makes each row as long as 64, by 0 times another one that is: its numbers together stay as they were. */
    private static void dueNothingBeyond(String call, Counted x) {
        int longest = x.of(0, 0) == 64 ? 0 : 4;
        if (x.of(longest, 0) < 64) {
            x.round(longest, longest, 64, longest);
        }
        for (int register = 0; register < 6; register++) {
            if (register != longest) {
                int sum = x.of(register, 3);
                Checks.due(call + ": the longer row of " + register, x.add(register, longest, 0, register), 64);
                Checks.due(call + ": the sum of the longer row of " + register, x.of(register, 3), sum);
            }
        }
    }
}
