/** The boundary cases of the promises 13, 14, 15 and 17, and of what the document's terms say of rows. */
final class ReadingsBoundariesTest {
    private static final int LEAST = Integer.MIN_VALUE;
    private static final int GREATEST = Integer.MAX_VALUE;
    private static final int[] NO_REGISTERS = {-1, 6, 7, LEAST, GREATEST};

    public static void main(String[] args) {
        promise13Registers();
        promise13Places();
        promise13PlaceAtTheEndOfEachLength();
        promise14Registers();
        promise14Whats();
        promise14Length();
        promise14Degree();
        promise14HowManyAreNot0();
        promise14SumNotModulo257();
        promise14HowManyHaveTheValue0();
        promise14TheLeastThatHasTheValue0();
        promise14FirstErrorFirst();
        promise15Registers();
        promise15Xs();
        promise15Power0AndPower63();
        promise15Modulo257();
        promise15FirstErrorFirst();
        promise17Whats();
        promise17LengthsOfAllRows();
        promise17LengthOfThePad();
        promise17ChangesThatCanBeUndone();
        promise13To23WhatIsNoChangeLeavesRowsAndSlots();
        Checks.end();
    }

    // ---- promise 13: number

    private static void promise13Registers() {
        for (int none : NO_REGISTERS) {
            Checks.refused("number(" + none + ", 0)", Checks.NO_SUCH, x -> x.number(none, 0));
        }
        int[] first = {1, 0, 5, 0, 1, 1};
        for (int register = 0; register < 6; register++) {
            int of = register;
            Checks.asked("number(" + of + ", 0)", first[of], x -> x.number(of, 0));
        }
    }

    /** "NO_SUCH if there is no such register or place": in rows of 1, 3 and 64, the longest one. */
    private static void promise13Places() {
        for (int place : new int[] {-1, 3, 4, 63, 64, LEAST, GREATEST}) {
            Checks.refused("number(0, " + place + ")", Checks.NO_SUCH, x -> x.number(0, place));
        }
        Checks.asked("number(0, 1)", 2, x -> x.number(0, 1));
        Checks.asked("number(0, 2)", 3, x -> x.number(0, 2));
        Checks.refused("number(2, 1)", Checks.NO_SUCH, x -> x.number(2, 1));
        Checks.refused("number(4, 64)", Checks.NO_SUCH, x -> x.number(4, 64));
        Checks.refused("number(4, 65)", Checks.NO_SUCH, x -> x.number(4, 65));
        Checks.asked("number(1, 1)", 0, x -> x.number(1, 1));
        Checks.refused("number(1, 2)", Checks.NO_SUCH, x -> x.number(1, 2));
    }

    private static void promise13PlaceAtTheEndOfEachLength() {
        Counted x = new Counted();
        for (int length = 1; length <= 64; length++) {
            x.set(0, length - 1, 256 - length);
            Checks.due("the last number of " + length, x.number(0, length - 1), 256 - length);
            Checks.due("the number after the last one of " + length, x.number(0, length), Checks.NO_SUCH);
            Checks.due("the number before the first one of " + length, x.number(0, -1), Checks.NO_SUCH);
        }
        x.set(0, 63, 256);
        Checks.due("the greatest number", x.number(0, 63), 256);
    }

    // ---- promise 14: of

    private static void promise14Registers() {
        for (int none : NO_REGISTERS) {
            for (int what = 0; what < 6; what++) {
                int asked = what;
                Checks.refused("of(" + none + ", " + what + ")", Checks.NO_SUCH, x -> x.of(none, asked));
            }
        }
        int[] lengths = {3, 2, 1, 2, 64, 33};
        for (int register = 0; register < 6; register++) {
            int of = register;
            Checks.asked("of(" + of + ", 0)", lengths[of], x -> x.of(of, 0));
        }
    }

    /** "what: 0 .. 5". */
    private static void promise14Whats() {
        for (int what : new int[] {-1, 6, 7, LEAST, GREATEST}) {
            Checks.refused("of(0, " + what + ")", Checks.BAD_VALUE, x -> x.of(0, what));
        }
        // (1 + x)(1 + 256x): the values are 0 at 1 and 256.
        int[] answers = {4, 2, 2, 257, 2, 1};
        for (int what = 0; what < 6; what++) {
            int asked = what;
            Checks.leaves(() -> Checks.withRows(Checks.row(1, 0, 256, 0)), "of(0, " + what + ")", answers[what],
                    x -> x.of(0, asked));
        }
    }

    private static void promise14Length() {
        Counted x = new Counted();
        for (int length = 1; length <= 64; length++) {
            x.round(0, 0, length, 1);
            Checks.due("length of " + length + " numbers that are 0", x.of(1, 0), length);
        }
    }

    /** "the greatest place at which its number is not 0 (NONE if all are 0)". */
    private static void promise14Degree() {
        Counted x = new Counted();
        Checks.due("the degree of 0", x.of(0, 1), Checks.NONE);
        x.round(0, 0, 64, 1);
        Checks.due("the degree of 64 that are 0", x.of(1, 1), Checks.NONE);
        x.set(1, 0, 256);
        Checks.due("the degree where only the first is not 0", x.of(1, 1), 0);
        for (int place = 1; place < 64; place++) {
            x.set(1, place, 1);
            Checks.due("the degree with 1 at " + place, x.of(1, 1), place);
            x.set(1, place, 0);
            Checks.due("the degree without it", x.of(1, 1), 0);
        }
        x.set(1, 63, 1);
        x.set(1, 0, 0);
        Checks.due("the degree where only the last is not 0", x.of(1, 1), 63);
        x.set(2, 0, 1);
        Checks.due("the degree of 1", x.of(2, 1), 0);
    }

    private static void promise14HowManyAreNot0() {
        Counted x = new Counted();
        Checks.due("how many of 0 are not 0", x.of(0, 2), 0);
        x.round(0, 0, 64, 1);
        Checks.due("how many of 64 that are 0 are not", x.of(1, 2), 0);
        for (int place = 0; place < 64; place++) {
            x.set(1, place, place % 2 == 0 ? 1 : 256);
            Checks.due("how many are not 0 to " + place, x.of(1, 2), place + 1);
        }
        x.set(1, 0, 0);
        x.set(1, 63, 0);
        Checks.due("how many are not 0 but for both ends", x.of(1, 2), 62);
    }

    /** "the sum of its numbers, not modulo 257": 256, 257, 258, and the least and the greatest sum there are. */
    private static void promise14SumNotModulo257() {
        Counted x = Checks.withRows(Checks.row(256, 0), Checks.row(256, 1), Checks.row(1, 1, 256), Checks.all(64, 256));
        Checks.due("the sum 256", x.of(0, 3), 256);
        Checks.due("the sum 257", x.of(1, 3), 257);
        Checks.due("the sum 258", x.of(2, 3), 258);
        Checks.due("the greatest sum", x.of(3, 3), 16384);
        Checks.due("the least sum", x.of(4, 3), 0);
    }

    /** "how many x of 0 to 256 have the value 0": none, 0 alone, 256 alone, as many as the degree, all. */
    private static void promise14HowManyHaveTheValue0() {
        Counted x = Checks.withRows(Checks.row(1), Checks.row(0, 1), Checks.row(1, 1), Checks.row(0, 1, 1),
                Checks.row(3, 0, 1), Checks.row(0, 0, 0));
        int[] many = {0, 1, 1, 2, 0, 257};
        for (int register = 0; register < 6; register++) {
            Checks.due("of(" + register + ", 4)", x.of(register, 4), many[register]);
        }
        Counted y = new Counted();
        y.round(0, 0, 64, 1);
        Checks.due("of 64 that are 0", y.of(1, 4), 257);
        y.set(1, 63, 1);
        Checks.due("of x to the power 63", y.of(1, 4), 1);
        Checks.due("the least of x to the power 63", y.of(1, 5), 0);
        // x^64 - 1 without x - 1; without x + 1, too; and times x then.
        Counted z = Checks.withRows(Checks.all(64, 1), Checks.row(1, 1), Checks.row(0, 1));
        Checks.due("of the degree 63, as many", z.of(0, 4), 63);
        z.divide(0, 1, 3, 4);
        Checks.due("of the degree 62, as many", z.of(3, 4), 62);
        Checks.due("the least of them", z.of(3, 5), 2);
        z.product(3, 2, 5);
        Checks.due("of the degree 63, 0 among them", z.of(5, 4), 63);
        Checks.due("the least of them is 0", z.of(5, 5), 0);
    }

    /** "the least one of these (NONE)": 0, 1, 255, 256, none. */
    private static void promise14TheLeastThatHasTheValue0() {
        Counted x = Checks.withRows(Checks.row(0, 1, 1), Checks.row(255, 1, 1), Checks.row(2, 1), Checks.row(1, 1),
                Checks.row(3, 0, 1), Checks.row(0));
        int[] least = {0, 1, 255, 256, Checks.NONE, 0};
        for (int register = 0; register < 6; register++) {
            Checks.due("of(" + register + ", 5)", x.of(register, 5), least[register]);
        }
        x.set(5, 0, 256);
        Checks.due("of the number 256", x.of(5, 5), Checks.NONE);
    }

    private static void promise14FirstErrorFirst() {
        Checks.refused("of(6, 6)", Checks.NO_SUCH, x -> x.of(6, 6));
        Checks.refused("of(-1, -1)", Checks.NO_SUCH, x -> x.of(-1, -1));
        // An error comes before NONE: the register 1 is all 0.
        Checks.refused("of(1, 6)", Checks.BAD_VALUE, x -> x.of(1, 6));
        Checks.asked("of(1, 1)", Checks.NONE, x -> x.of(1, 1));
    }

    // ---- promise 15: value

    private static void promise15Registers() {
        for (int none : NO_REGISTERS) {
            Checks.refused("value(" + none + ", 1)", Checks.NO_SUCH, x -> x.value(none, 1));
        }
        int[] at0 = {1, 0, 5, 0, 1, 1};
        for (int register = 0; register < 6; register++) {
            int of = register;
            Checks.asked("value(" + of + ", 0)", at0[of], x -> x.value(of, 0));
        }
    }

    /** "x: 0 to 256". */
    private static void promise15Xs() {
        for (int at : new int[] {-1, 257, 258, LEAST, GREATEST}) {
            Checks.refused("value(0, " + at + ")", Checks.BAD_VALUE, x -> x.value(0, at));
            Checks.refused("value(1, " + at + ")", Checks.BAD_VALUE, x -> x.value(1, at));
        }
        Checks.asked("value(0, 0)", 1, x -> x.value(0, 0));
        Checks.asked("value(0, 1)", 6, x -> x.value(0, 1));
        Checks.asked("value(0, 255)", 9, x -> x.value(0, 255));
        Checks.asked("value(0, 256)", 2, x -> x.value(0, 256));
        Checks.asked("value(1, 256)", 0, x -> x.value(1, 256));
        Checks.asked("value(2, 256)", 5, x -> x.value(2, 256));
    }

    /** The power 0 of 0 is 1; the last place of the longest row counts with the power 63. */
    private static void promise15Power0AndPower63() {
        Counted x = new Counted();
        x.round(0, 0, 64, 1);
        x.set(1, 63, 1);
        Checks.due("the power 63 of 0", x.value(1, 0), 0);
        Checks.due("the power 63 of 1", x.value(1, 1), 1);
        Checks.due("the power 63 of 2", x.value(1, 2), 129);
        Checks.due("the power 63 of 3", x.value(1, 3), 166);
        Checks.due("the power 63 of 256", x.value(1, 256), 256);
        x.set(1, 0, 256);
        Checks.due("the number at the place 0", x.value(1, 0), 256);
        Checks.due("its sum with the power 63 of 1", x.value(1, 1), 0);
        Checks.due("its sum with the power 63 of 256", x.value(1, 256), 255);
    }

    private static void promise15Modulo257() {
        Counted x = Checks.withRows(Checks.row(255, 1), Checks.all(64, 256));
        Checks.due("the value 256", x.value(0, 1), 256);
        Checks.due("the value 257", x.value(0, 2), 0);
        Checks.due("the value 258", x.value(0, 3), 1);
        Checks.due("64 times 256", x.value(1, 1), 193);
        Checks.due("256 less 256, 32 times", x.value(1, 256), 0);
    }

    private static void promise15FirstErrorFirst() {
        Checks.refused("value(6, 257)", Checks.NO_SUCH, x -> x.value(6, 257));
        Checks.refused("value(-1, -1)", Checks.NO_SUCH, x -> x.value(-1, -1));
    }

    // ---- promise 17: count

    /** "what: 0 .. 2". */
    private static void promise17Whats() {
        for (int what : new int[] {-1, 3, 4, LEAST, GREATEST}) {
            Checks.refused("count(" + what + ")", Checks.BAD_VALUE, x -> x.count(what));
        }
        Checks.asked("count(0)", 3 + 2 + 1 + 2 + 64 + 33, x -> x.count(0));
        Checks.asked("count(1)", 3, x -> x.count(1));
        Checks.asked("count(2)", 6, x -> x.count(2));
    }

    /** At least 6, and at most 6 times 64. */
    private static void promise17LengthsOfAllRows() {
        Counted x = new Counted();
        Checks.due("count(0) of a new object", x.count(0), 6);
        for (int register = 0; register < 6; register++) {
            x.round(register, register, 64, register);
            Checks.due("count(0) with " + register, x.count(0), 6 + 63 * (register + 1));
        }
        Checks.due("set beyond the longest row", x.set(5, 64, 1), Checks.TOO_MANY);
        Checks.due("count(0) then", x.count(0), 384);
    }

    private static void promise17LengthOfThePad() {
        Counted x = new Counted();
        for (int length = 0; length < 80; length++) {
            Checks.due("count(1) of " + length, x.count(1), length);
            x.put('7');
        }
        Checks.due("count(1) of 80", x.count(1), 80);
        x.put('7');
        Checks.due("count(1) of 80, when one more is refused", x.count(1), 80);
        x.read(0);
        Checks.due("count(1), when its row is refused", x.count(1), 80);
        x.wipe();
        Checks.due("count(1) when it is wiped", x.count(1), 0);
    }

    private static void promise17ChangesThatCanBeUndone() {
        Counted x = new Counted();
        for (int changes = 0; changes < 8; changes++) {
            Checks.due("count(2) after " + changes, x.count(2), Math.min(changes, 6));
            x.set(0, 0, changes);
        }
        for (int left = 5; left >= 0; left--) {
            x.undo();
            Checks.due("count(2) with " + left + " left", x.count(2), left);
        }
        x.undo();
        Checks.due("count(2) after an undo too many", x.count(2), 0);
    }

    // ---- "what there is; nothing changes", "searching; nothing changes", and the calls for texts

    private static void promise13To23WhatIsNoChangeLeavesRowsAndSlots() {
        Checks.Call[] calls = {
            x -> x.number(5, 0), x -> x.of(5, 0), x -> x.of(5, 5), x -> x.value(5, 256), x -> x.turningPoint(64, 1000),
            x -> x.count(0), x -> x.count(1), x -> x.count(2), x -> x.fits(5, 1), x -> x.sum(5, 1, 2),
            x -> x.found(5, 1, 2), x -> x.fault(), x -> x.put('9'), x -> x.wipe()};
        int[][] rows = {{1, 2}, {3}, {4, 5, 6}, {7}, {8, 9}, {10, 11, 12}};
        for (int i = 0; i < calls.length; i++) {
            Counted x = Checks.withRows(rows);
            Checks.type(x, "5,6");
            calls[i].on(x);
            for (int register = 0; register < 6; register++) {
                Checks.dueRow("call " + i, x, register, rows[register]);
            }
            Checks.due("call " + i + ": restore(0)", x.restore(0), Checks.NOT_POSSIBLE);
            Checks.due("call " + i + ": restore(1)", x.restore(1), Checks.NOT_POSSIBLE);
            x.save(0);
            x.set(5, 0, 13);
            x.save(1);
            x.set(5, 3, 14);
            calls[i].on(x);
            Checks.due("call " + i + ": restore(0)", x.restore(0), 12);
            Checks.dueRow("call " + i + ": restore(0)", x, 5, 10, 11, 12);
            Checks.due("call " + i + ": restore(1)", x.restore(1), 12);
            Checks.dueRow("call " + i + ": restore(1)", x, 5, 13, 11, 12);
        }
    }
}
