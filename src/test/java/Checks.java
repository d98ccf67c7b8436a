import java.util.function.LongSupplier;

/** What the tests share: answers that are due, rows that are made and looked at, calls that are refused. */
final class Checks {
    static final int NO_SUCH = -1, BAD_VALUE = -2, BAD_TEXT = -3, TOO_MANY = -4, NOT_POSSIBLE = -5, NONE = -6;

    /** Far more than any test needs: what is still running then does not end. */
    private static final long MOST_MILLISECONDS = 180_000;

    private static int wrong = 0;

    static {
        Thread guard = new Thread(Checks::failWhenItDoesNotEnd);
        guard.setDaemon(true);
        guard.start();
    }

    private Checks() {
    }

    /** Ends with 2, by which .ci/run knows that it need not wait for the other tests. */
    private static void failWhenItDoesNotEnd() {
        try {
            Thread.sleep(MOST_MILLISECONDS);
        } catch (InterruptedException e) {
            return;
        }
        System.out.println("a call does not end");
        Runtime.getRuntime().halt(2);
    }

    static void due(String call, long got, long want) {
        if (got != want) {
            wrong++;
            System.out.println(call + " answered " + got + ", due is " + want);
        }
    }

    static void dueText(String call, String got, String want) {
        if (!got.equals(want)) {
            wrong++;
            System.out.println(call + " is\n  " + got + ", due is\n  " + want);
        }
    }

    /** To be called at the end of each main method. */
    static void end() {
        System.out.println(wrong == 0 ? "all answers are as due" : wrong + " answers are not as due");
        if (wrong != 0) {
            System.exit(1);
        }
    }

    /** The number by which put is given these 1 to 8 characters. */
    static long pack(String characters) {
        long packed = 0;
        for (char sign : characters.toCharArray()) {
            packed = packed << 8 | sign;
        }
        return packed;
    }

    /** Appends a text of any length to the pad. */
    static void type(Counted x, String text) {
        for (int i = 0; i < text.length(); i += 8) {
            String part = text.substring(i, Math.min(i + 8, text.length()));
            due("put of " + part, x.put(pack(part)), i + part.length());
        }
    }

    static String join(int... numbers) {
        StringBuilder text = new StringBuilder();
        for (int i = 0; i < numbers.length; i++) {
            text.append(i == 0 ? "" : ",").append(numbers[i]);
        }
        return text.toString();
    }

    /** Gives a register a row of at most 64 numbers. */
    static void fill(Counted x, int register, int... numbers) {
        int readable = Math.min(numbers.length, 20);
        int[] first = new int[readable];
        System.arraycopy(numbers, 0, first, 0, readable);
        x.wipe();
        type(x, join(first));
        due("read into " + register, x.read(register), readable);
        for (int place = readable; place < numbers.length; place++) {
            due("set at " + place, x.set(register, place, numbers[place]), place + 1);
        }
    }

    static Counted withRows(int[]... rows) {
        Counted x = new Counted();
        for (int register = 0; register < rows.length; register++) {
            fill(x, register, rows[register]);
        }
        return x;
    }

    static int[] row(int... numbers) {
        return numbers;
    }

    /** A row of a length with the same number everywhere. */
    static int[] all(int length, int number) {
        int[] row = new int[length];
        java.util.Arrays.fill(row, number);
        return row;
    }

    static String rowText(Counted x, int register) {
        int[] numbers = new int[x.of(register, 0)];
        for (int place = 0; place < numbers.length; place++) {
            numbers[place] = x.number(register, place);
        }
        return join(numbers);
    }

    static void dueRow(String call, Counted x, int register, int... numbers) {
        dueText(call + ": the row of " + register, rowText(x, register), join(numbers));
    }

    /** All that can be seen of an object without a change. */
    static String seen(Counted x) {
        return rowsSeen(x) + x.count(1) + ' ' + x.count(2) + ' ' + x.fault();
    }

    /** Checks that a call returns an error (or a number that is looked up), and changes nothing. */
    static void unchanged(Counted x, String call, int want, LongSupplier answer) {
        String before = seen(x);
        due(call, answer.getAsLong(), want);
        dueText("what is seen after " + call, seen(x), before);
    }

    /** Checks that a change returns its answer and can be undone, and does it anew. */
    static void changes(Counted x, String call, int want, LongSupplier answer) {
        int before = x.count(2);
        due(call, answer.getAsLong(), want);
        int after = Math.min(before + 1, 6);
        due("count(2) after " + call, x.count(2), after);
        String then = rowsSeen(x);
        due("undo after " + call, x.undo(), after - 1);
        due(call + " once more", answer.getAsLong(), want);
        dueText("the rows after " + call + " once more", rowsSeen(x), then);
    }

    /** All rows; of the longer ones, some numbers that tell them from others. */
    static String rowsSeen(Counted x) {
        StringBuilder text = new StringBuilder();
        for (int register = 0; register < 6; register++) {
            text.append(x.of(register, 0) > 4 ? digest(x, register) : rowText(x, register)).append(" | ");
        }
        return text.toString();
    }

    static void dueCalls(Counted x, int left) {
        due("the calls that are left of an object", x.callsLeft(), left);
    }

    // ---- calls that are tried on an object of their own

    /** A call, or some of them, and the answer of the last one. */
    interface Call {
        long on(Counted x);
    }

    /** Makes an object, and always the same one. */
    interface Maker {
        Counted make();
    }

    /**
     * An object in which everything is there that a refused call could spoil: rows of different kinds, two different
     * slots, six states that can be undone (a seventh was dropped), and the text of a row in the pad.
     */
    static Counted full() {
        return full(true, true);
    }

    /** The same, but with only those slots in which something was saved. */
    static Counted full(boolean slot0, boolean slot1) {
        Counted x = new Counted();
        fill(x, 0, 1, 9, 3);
        if (slot0) {
            x.save(0);
        }
        fill(x, 1, 0, 0);
        x.set(2, 0, 5);
        fill(x, 3, 0, 4);
        if (slot1) {
            x.save(1);
        }
        fillLongRows(x);
        return x;
    }

    private static void fillLongRows(Counted x) {
        x.inverse(0, 64, 4);
        x.round(0, 0, 33, 5);
        x.set(0, 1, 2);
        type(x, "7,8");
    }

    /** The same rows, but in both slots, and in the states of the history, there are six long ones each. */
    static Counted fullOfLongSlots() {
        Counted x = new Counted();
        fill(x, 0, 7, 1, 2);
        for (int register = 1; register < 6; register++) {
            x.inverse(0, 64 - 9 * register, register);
        }
        x.inverse(0, 64, 0);
        x.save(0);
        for (int register = 0; register < 6; register++) {
            x.add(register, 5 - register, 3, register);
        }
        x.save(1);
        fill(x, 0, 1, 9, 3);
        fill(x, 1, 0, 0);
        fill(x, 2, 5);
        fill(x, 3, 0, 4);
        fillLongRows(x);
        return x;
    }

    /** The lengths of the two longest rows of a full object; the others are 1,2,3 and 0,0 and 5 and 0,4. */
    static final int LENGTH_4 = 64, LENGTH_5 = 33;

    /** Checks that a call is refused, and leaves a full object as it was, and one with empty slots, or long rows in them. */
    static void refused(String call, long want, Call answer) {
        leaves(Checks::full, call, want, answer);
        leaves(() -> full(false, false), call + ", empty slots", want, answer);
        leaves(Checks::fullOfLongSlots, call + ", long slots", want, answer);
    }

    /** Checks that a call that is no change gives its answer, and leaves these objects as they were. */
    static void asked(String call, long want, Call answer) {
        refused(call, want, answer);
    }

    /** Checks a call's answer, and that nothing that can be found out by any calls is different after it. */
    static void leaves(Maker maker, String call, long want, Call answer) {
        Counted x = maker.make();
        due(call, answer.on(x), want);
        dueText("everything after " + call, everything(x), everything(maker.make()));
    }

    /**
     * Checks that a change gives its answer and the rows of its registers, that it leaves the other registers, the pad
     * and the slots, and that one more change can be undone then, which makes everything as it was.
     */
    static void changed(Maker maker, String call, long want, Call answer, int register, int... row) {
        changedTwo(maker, call, want, answer, register, row, register, row);
    }

    static void changedTwo(Maker maker, String call, long want, Call answer,
            int register, int[] row, int second, int[] secondRow) {
        Counted before = maker.make();
        Counted x = maker.make();
        due(call, answer.on(x), want);
        dueRow(call, x, register, row);
        if (second != register) {
            dueRow(call, x, second, secondRow);
        }
        for (int other = 0; other < 6; other++) {
            if (other != register && other != second) {
                dueText(call + ": the other register " + other, digest(x, other), digest(before, other));
            }
        }
        due(call + ": count(1) then", x.count(1), before.count(1));
        int undone = Math.min(before.count(2), 5);
        due(call + ": count(2) then", x.count(2), undone + 1);
        due(call + ": undo", x.undo(), undone);
        dueText(call + ": everything after undo", everything(x), everythingOfLatest(before, undone));
    }

    private static String everythingOfLatest(Counted x, int undone) {
        StringBuilder text = new StringBuilder();
        appendStates(text, x, undone);
        return text.toString();
    }

    /** A row's length and some numbers of which one is most likely different if the row is. */
    static String digest(Counted x, int register) {
        return x.of(register, 0) + "/" + x.of(register, 3) + "/" + x.value(register, 3) + "/" + x.value(register, 200);
    }

    private static void appendRows(StringBuilder text, Counted x, String where) {
        text.append("\n  ").append(where).append(':');
        for (int register = 0; register < 6; register++) {
            text.append(' ').append(digest(x, register));
        }
    }

    /** All that can be found out about an object, by some 250 calls that change it: rows, states, slots and pad. */
    static String everything(Counted x) {
        StringBuilder text = new StringBuilder();
        appendStates(text, x, 6);
        return text.toString();
    }

    private static void appendStates(StringBuilder text, Counted x, int statesAtMost) {
        text.append("pad ").append(x.count(1)).append(' ').append(x.fault());
        appendRows(text, x, "rows");
        int undone = 0;
        while (undone < statesAtMost && x.undo() >= 0) {
            undone++;
            appendRows(text, x, "undone " + undone);
        }
        for (int slot = 0; slot < 2; slot++) {
            text.append("\n  restore ").append(x.restore(slot));
            appendRows(text, x, "slot " + slot);
        }
        text.append("\n  read ").append(x.read(0));
        appendRows(text, x, "pad");
    }
}
