import java.util.function.LongSupplier;

/** What the tests share: answers that are due, rows that are made and looked at, calls that are refused. */
final class Checks {
    static final int NO_SUCH = -1, BAD_VALUE = -2, BAD_TEXT = -3, TOO_MANY = -4, NOT_POSSIBLE = -5, NONE = -6;

    private static int wrong = 0;

    private Checks() {
    }

    static void due(String call, long got, long want) {
        if (got != want) {
            wrong++;
            System.out.println(call + " answered " + got + ", due is " + want);
        }
    }

    static void dueText(String call, String got, String want) {
        if (!got.equals(want)) {
            wrong++;
            System.out.println(call + " is\n  " + got + ", due is\n  " + want);
        }
    }

    /** To be called at the end of each main method. */
    static void end() {
        System.out.println(wrong == 0 ? "all answers are as due" : wrong + " answers are not as due");
        if (wrong != 0) {
            System.exit(1);
        }
    }

    /** The number by which put is given these 1 to 8 characters. */
    static long pack(String characters) {
        long packed = 0;
        for (char sign : characters.toCharArray()) {
            packed = packed << 8 | sign;
        }
        return packed;
    }

    /** Appends a text of any length to the pad. */
    static void type(TurnedRows x, String text) {
        for (int i = 0; i < text.length(); i += 8) {
            String part = text.substring(i, Math.min(i + 8, text.length()));
            due("put of " + part, x.put(pack(part)), i + part.length());
        }
    }

    static String join(int... numbers) {
        StringBuilder text = new StringBuilder();
        for (int i = 0; i < numbers.length; i++) {
            text.append(i == 0 ? "" : ",").append(numbers[i]);
        }
        return text.toString();
    }

    /** Gives a register a row of at most 64 numbers. */
    static void fill(TurnedRows x, int register, int... numbers) {
        int readable = Math.min(numbers.length, 20);
        int[] first = new int[readable];
        System.arraycopy(numbers, 0, first, 0, readable);
        x.wipe();
        type(x, join(first));
        due("read into " + register, x.read(register), readable);
        for (int place = readable; place < numbers.length; place++) {
            due("set at " + place, x.set(register, place, numbers[place]), place + 1);
        }
    }

    static TurnedRows withRows(int[]... rows) {
        TurnedRows x = new TurnedRows();
        for (int register = 0; register < rows.length; register++) {
            fill(x, register, rows[register]);
        }
        return x;
    }

    static int[] row(int... numbers) {
        return numbers;
    }

    /** A row of a length with the same number everywhere. */
    static int[] all(int length, int number) {
        int[] row = new int[length];
        java.util.Arrays.fill(row, number);
        return row;
    }

    static String rowText(TurnedRows x, int register) {
        int[] numbers = new int[x.of(register, 0)];
        for (int place = 0; place < numbers.length; place++) {
            numbers[place] = x.number(register, place);
        }
        return join(numbers);
    }

    static void dueRow(String call, TurnedRows x, int register, int... numbers) {
        dueText(call + ": the row of " + register, rowText(x, register), join(numbers));
    }

    /** All that can be seen of an object without a change. */
    static String seen(TurnedRows x) {
        StringBuilder text = new StringBuilder();
        for (int register = 0; register < 6; register++) {
            text.append(rowText(x, register)).append(" | ");
        }
        return text.append(x.count(1)).append(' ').append(x.count(2)).append(' ').append(x.fault()).toString();
    }

    /** Checks that a call returns an error (or a number that is looked up), and changes nothing. */
    static void unchanged(TurnedRows x, String call, int want, LongSupplier answer) {
        String before = seen(x);
        due(call, answer.getAsLong(), want);
        dueText("what is seen after " + call, seen(x), before);
    }

    /** Checks that a change returns its answer and can be undone, and does it anew. */
    static void changes(TurnedRows x, String call, int want, LongSupplier answer) {
        int before = x.count(2);
        due(call, answer.getAsLong(), want);
        int after = Math.min(before + 1, 6);
        due("count(2) after " + call, x.count(2), after);
        String then = rowsSeen(x);
        due("undo after " + call, x.undo(), after - 1);
        due(call + " once more", answer.getAsLong(), want);
        dueText("the rows after " + call + " once more", rowsSeen(x), then);
    }

    static String rowsSeen(TurnedRows x) {
        StringBuilder text = new StringBuilder();
        for (int register = 0; register < 6; register++) {
            text.append(rowText(x, register)).append(" | ");
        }
        return text.toString();
    }
}
