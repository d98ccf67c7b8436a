import java.util.Arrays;

/**
 * Six registers of rows of numbers modulo 257: products, quotients, rows that are turned,
 * texts that are searched, undo and saved states. README.md says how to use it.
 *
 * Every row, pad and state is made with the object and used again, so that no call makes anything.
 */
public final class TurnedRows {
    public static final int NO_SUCH = -1, BAD_VALUE = -2, BAD_TEXT = -3, TOO_MANY = -4, NOT_POSSIBLE = -5, NONE = -6;

    private static final int PRIME = 257;
    /** Its powers are all numbers of 1 to 256, so that there is a turning point for every size. */
    private static final int GENERATOR = 3;
    private static final int REGISTERS = 6;
    private static final int LONGEST_ROW = 64;
    private static final int GREATEST_SIZE = 64;
    private static final int GREATEST_POWER = 9;
    private static final int GREATEST_TURNING_POWER = 1000;
    private static final int PLACES_IN_A_SET = 60;
    private static final int LONGEST_PAD = 80;
    private static final int CHARACTERS_IN_A_LONG = 8;
    private static final int FIRST_CODE = 33;
    private static final int LAST_CODE = 126;
    private static final int STATES_KEPT = 6;
    private static final int SLOTS = 2;

    private final State state = new State();
    private final History history = new History();
    private final Pad pad = new Pad();
    private final State[] slots = new State[SLOTS];
    private final boolean[] saved = new boolean[SLOTS];

    // Results are made here first: the register that gets one may be one that it is made of.
    private final Row made = new Row();
    private final Row madeRest = new Row();
    // Room for the steps of a power and of a greatest common divisor.
    private final Row stepDividend = new Row();
    private final Row stepDivisor = new Row();
    private final Row stepResult = new Row();

    public TurnedRows() {
        for (int slot = 0; slot < slots.length; slot++) {
            slots[slot] = new State();
        }
    }

    // ---- changes

    public int read(int register) {
        Row target = state.rowOf(register);
        if (target == null) {
            return NO_SUCH;
        }
        if (pad.scan(made) != NONE) {
            return BAD_TEXT;
        }
        change(target);
        pad.empty();
        return target.length();
    }

    public int set(int register, int place, int number) {
        Row row = state.rowOf(register);
        if (row == null || place < 0 || place > row.length()) {
            return NO_SUCH;
        }
        if (!isNumber(number)) {
            return BAD_VALUE;
        }
        if (place >= LONGEST_ROW) {
            return TOO_MANY;
        }
        history.keep(state);
        row.resize(Math.max(row.length(), place + 1));
        row.write(place, number);
        return row.length();
    }

    public int add(int register, int other, int times, int to) {
        Row first = state.rowOf(register);
        Row second = state.rowOf(other);
        Row target = state.rowOf(to);
        if (first == null || second == null || target == null) {
            return NO_SUCH;
        }
        if (!isNumber(times)) {
            return BAD_VALUE;
        }
        made.clear(Math.max(first.length(), second.length()));
        for (int place = 0; place < made.length(); place++) {
            made.write(place, first.at(place) + times * second.at(place));
        }
        change(target);
        return target.length();
    }

    public int product(int register, int other, int to) {
        Row first = state.rowOf(register);
        Row second = state.rowOf(other);
        Row target = state.rowOf(to);
        if (first == null || second == null || target == null) {
            return NO_SUCH;
        }
        int length = productLength(first, second);
        if (length > LONGEST_ROW) {
            return TOO_MANY;
        }
        multiply(first, second, length, made);
        change(target);
        return length;
    }

    public int round(int register, int other, int size, int to) {
        Row first = state.rowOf(register);
        Row second = state.rowOf(other);
        Row target = state.rowOf(to);
        if (first == null || second == null || target == null) {
            return NO_SUCH;
        }
        if (size < 1 || size > LONGEST_ROW) {
            return BAD_VALUE;
        }
        multiply(first, second, size, made);
        change(target);
        return target.degree();
    }

    public int power(int register, int power, int to) {
        Row row = state.rowOf(register);
        Row target = state.rowOf(to);
        if (row == null || target == null) {
            return NO_SUCH;
        }
        if (power < 0 || power > GREATEST_POWER) {
            return BAD_VALUE;
        }
        if (power * (row.length() - 1) + 1 > LONGEST_ROW) {
            return TOO_MANY;
        }
        made.clear(1);
        made.write(0, 1);
        for (int step = 0; step < power; step++) {
            multiply(made, row, productLength(made, row), stepResult);
            made.copyFrom(stepResult);
        }
        change(target);
        return target.length();
    }

    public int inverse(int register, int many, int to) {
        Row row = state.rowOf(register);
        Row target = state.rowOf(to);
        if (row == null || target == null) {
            return NO_SUCH;
        }
        if (many < 1 || many > LONGEST_ROW) {
            return BAD_VALUE;
        }
        if (row.at(0) == 0) {
            return NOT_POSSIBLE;
        }
        invertRow(row, many, made);
        change(target);
        return target.degree();
    }

    public int divide(int register, int other, int to, int toRest) {
        Row dividend = state.rowOf(register);
        Row divisor = state.rowOf(other);
        Row target = state.rowOf(to);
        Row restTarget = state.rowOf(toRest);
        if (dividend == null || divisor == null || target == null || restTarget == null) {
            return NO_SUCH;
        }
        if (to == toRest) {
            return BAD_VALUE;
        }
        if (divisor.degree() == NONE) {
            return NOT_POSSIBLE;
        }
        divideRows(dividend, divisor, made, madeRest);
        change(target);
        restTarget.copyFrom(madeRest);
        return restTarget.degree();
    }

    public int divisor(int register, int other, int to) {
        Row first = state.rowOf(register);
        Row second = state.rowOf(other);
        Row target = state.rowOf(to);
        if (first == null || second == null || target == null) {
            return NO_SUCH;
        }
        if (first.degree() == NONE && second.degree() == NONE) {
            return NOT_POSSIBLE;
        }
        makeGreatestDivisor(first, second);
        change(target);
        return target.degree();
    }

    public int turn(int register, int size, int to) {
        Row row = state.rowOf(register);
        Row target = state.rowOf(to);
        if (row == null || target == null) {
            return NO_SUCH;
        }
        int point = pointOf(size);
        if (point == NONE) {
            return BAD_VALUE;
        }
        if (row.length() > size) {
            return NOT_POSSIBLE;
        }
        turnAround(row, size, point, made);
        change(target);
        return target.length() - target.countNotZero();
    }

    public int turnBack(int register, int to) {
        Row row = state.rowOf(register);
        Row target = state.rowOf(to);
        if (row == null || target == null) {
            return NO_SUCH;
        }
        int size = row.length();
        int point = pointOf(size);
        if (point == NONE) {
            return NOT_POSSIBLE;
        }
        // Turning by the inverse point undoes a turn, but for each number being size times too much.
        turnAround(row, size, inverseOf(point), made);
        made.scale(inverseOf(size));
        change(target);
        return target.degree();
    }

    // ---- what there is; nothing changes

    public int number(int register, int place) {
        Row row = state.rowOf(register);
        if (row == null || place < 0 || place >= row.length()) {
            return NO_SUCH;
        }
        return row.at(place);
    }

    public int of(int register, int what) {
        Row row = state.rowOf(register);
        if (row == null) {
            return NO_SUCH;
        }
        switch (what) {
            case 0:
                return row.length();
            case 1:
                return row.degree();
            case 2:
                return row.countNotZero();
            case 3:
                return row.total();
            case 4:
                return row.countRoots();
            case 5:
                return row.leastRoot();
            default:
                return BAD_VALUE;
        }
    }

    public int value(int register, int x) {
        Row row = state.rowOf(register);
        if (row == null) {
            return NO_SUCH;
        }
        if (!isNumber(x)) {
            return BAD_VALUE;
        }
        return row.valueAt(x);
    }

    public int turningPoint(int size, int power) {
        int point = pointOf(size);
        if (point == NONE || power < 0 || power > GREATEST_TURNING_POWER) {
            return BAD_VALUE;
        }
        return raise(point, power);
    }

    public int count(int what) {
        switch (what) {
            case 0:
                return state.lengths();
            case 1:
                return pad.length();
            case 2:
                return history.length();
            default:
                return BAD_VALUE;
        }
    }

    // ---- searching; nothing changes

    public long fits(int text, int pattern) {
        Row searched = state.rowOf(text);
        Row sought = state.rowOf(pattern);
        if (searched == null || sought == null) {
            return NO_SUCH;
        }
        int places = countPlaces(searched, sought);
        if (places < 1) {
            return NOT_POSSIBLE;
        }
        long set = 0;
        for (int place = 0; place < places && place < PLACES_IN_A_SET; place++) {
            if (fitsAt(searched, sought, place)) {
                set |= 1L << place;
            }
        }
        return set;
    }

    public int sum(int text, int pattern, int place) {
        Row searched = state.rowOf(text);
        Row sought = state.rowOf(pattern);
        if (searched == null || sought == null) {
            return NO_SUCH;
        }
        int places = countPlaces(searched, sought);
        if (places < 1) {
            return NOT_POSSIBLE;
        }
        if (place < 0 || place >= places) {
            return BAD_VALUE;
        }
        return sumAt(searched, sought, place);
    }

    public int found(int text, int pattern, int what) {
        Row searched = state.rowOf(text);
        Row sought = state.rowOf(pattern);
        if (searched == null || sought == null) {
            return NO_SUCH;
        }
        if (countPlaces(searched, sought) < 1) {
            return NOT_POSSIBLE;
        }
        switch (what) {
            case 0:
                return countFits(searched, sought);
            case 1:
                return countFalseOnes(searched, sought);
            case 2:
                return firstFalseOne(searched, sought);
            case 3:
                return greatestSum(searched, sought);
            default:
                return BAD_VALUE;
        }
    }

    // ---- texts

    public int put(long characters) {
        int many = countCharacters(characters);
        if (many == 0) {
            return BAD_VALUE;
        }
        if (pad.length() + many > LONGEST_PAD) {
            return TOO_MANY;
        }
        for (int left = many - 1; left >= 0; left--) {
            pad.append((int) (characters >>> (8 * left)) & 0xFF);
        }
        return pad.length();
    }

    public int wipe() {
        int length = pad.length();
        pad.empty();
        return length;
    }

    public int fault() {
        return pad.scan(made);
    }

    // ---- undo, saving

    public int undo() {
        if (history.length() == 0) {
            return NOT_POSSIBLE;
        }
        history.takeLatest(state);
        return history.length();
    }

    public int save(int slot) {
        if (!isSlot(slot)) {
            return BAD_VALUE;
        }
        slots[slot].copyFrom(state);
        saved[slot] = true;
        return state.lengths();
    }

    public int restore(int slot) {
        if (!isSlot(slot)) {
            return BAD_VALUE;
        }
        if (!saved[slot]) {
            return NOT_POSSIBLE;
        }
        history.keep(state);
        state.copyFrom(slots[slot]);
        return state.lengths();
    }

    // ---- what the calls share

    /** Gives a register the row that was made, and records the state before. */
    private void change(Row target) {
        history.keep(state);
        target.copyFrom(made);
    }

    private static boolean isNumber(int number) {
        return number >= 0 && number < PRIME;
    }

    private static boolean isSlot(int slot) {
        return slot >= 0 && slot < SLOTS;
    }

    private static int raise(int base, int power) {
        int result = 1;
        int square = base;
        for (int left = power; left > 0; left >>= 1) {
            if ((left & 1) == 1) {
                result = result * square % PRIME;
            }
            square = square * square % PRIME;
        }
        return result;
    }

    private static int inverseOf(int number) {
        // A number that is not 0 gives 1 when it is raised to PRIME - 1, so one power less is its inverse.
        return raise(number, PRIME - 2);
    }

    /** The turning point of a size; NONE if it is not a size. */
    private static int pointOf(int size) {
        if (size < 1 || size > GREATEST_SIZE || (size & (size - 1)) != 0) {
            return NONE;
        }
        return raise(GENERATOR, (PRIME - 1) / size);
    }

    // ---- products and quotients of rows

    private static int productLength(Row first, Row second) {
        return first.length() + second.length() - 1;
    }

    /** A product that goes round by a size; by the whole length of the product, it is a plain one. */
    private static void multiply(Row first, Row second, int size, Row result) {
        result.clear(size);
        int start = 0;
        for (int i = 0; i < first.length(); i++) {
            int place = start;
            for (int j = 0; j < second.length(); j++) {
                result.write(place, result.at(place) + first.at(i) * second.at(j));
                place = nextPlace(place, size);
            }
            start = nextPlace(start, size);
        }
    }

    private static int nextPlace(int place, int size) {
        return place + 1 < size ? place + 1 : 0;
    }

    private static void invertRow(Row row, int many, Row result) {
        int inverseOfFirst = inverseOf(row.at(0));
        result.clear(many);
        result.write(0, inverseOfFirst);
        for (int place = 1; place < many; place++) {
            int sum = 0;
            for (int i = 1; i <= place; i++) {
                sum += row.at(i) * result.at(place - i);
            }
            result.write(place, -(sum % PRIME) * inverseOfFirst);
        }
    }

    /** The divisor is not all 0. */
    private static void divideRows(Row dividend, Row divisor, Row quotient, Row rest) {
        int degree = divisor.degree();
        int inverseOfLast = inverseOf(divisor.at(degree));
        // NONE, the degree of a dividend that is all 0, is below 0, too.
        int last = dividend.degree() - degree;
        quotient.clear(Math.max(last, 0) + 1);
        rest.copyFrom(dividend);
        for (int place = last; place >= 0; place--) {
            int factor = rest.at(place + degree) * inverseOfLast % PRIME;
            quotient.write(place, factor);
            for (int i = 0; i <= degree; i++) {
                rest.write(place + i, rest.at(place + i) - factor * divisor.at(i));
            }
        }
        rest.resize(Math.max(degree, 1));
    }

    /** Makes the greatest common divisor of two rows that are not both all 0. */
    private void makeGreatestDivisor(Row first, Row second) {
        stepDividend.copyFrom(first);
        stepDivisor.copyFrom(second);
        // Each step lowers the degree of the divisor, which is below LONGEST_ROW: the bound is never met.
        for (int step = 0; step <= LONGEST_ROW && stepDivisor.degree() != NONE; step++) {
            divideRows(stepDividend, stepDivisor, stepResult, madeRest);
            stepDividend.copyFrom(stepDivisor);
            stepDivisor.copyFrom(madeRest);
        }
        int degree = stepDividend.degree();
        made.copyFrom(stepDividend);
        made.resize(degree + 1);
        made.scale(inverseOf(made.at(degree)));
    }

    /** Makes the row of the values at the powers of a point. */
    private static void turnAround(Row row, int size, int point, Row result) {
        result.clear(size);
        int x = 1;
        for (int place = 0; place < size; place++) {
            result.write(place, row.valueAt(x));
            x = x * point % PRIME;
        }
    }

    // ---- searching

    /** How many places of a text a pattern can stand at; below 1 if the pattern is longer. */
    private static int countPlaces(Row searched, Row sought) {
        return searched.length() - sought.length() + 1;
    }

    private static boolean fitsAt(Row searched, Row sought, int place) {
        for (int k = 0; k < sought.length(); k++) {
            int x = sought.at(k);
            int y = searched.at(place + k);
            if (x != 0 && y != 0 && x != y) {
                return false;
            }
        }
        return true;
    }

    private static int sumAt(Row searched, Row sought, int place) {
        int sum = 0;
        for (int k = 0; k < sought.length(); k++) {
            int x = sought.at(k);
            int y = searched.at(place + k);
            int square = (x - y) * (x - y) % PRIME;
            sum = (sum + x * y % PRIME * square) % PRIME;
        }
        return sum;
    }

    private static boolean isFalseOne(Row searched, Row sought, int place) {
        return sumAt(searched, sought, place) == 0 && !fitsAt(searched, sought, place);
    }

    private static int countFits(Row searched, Row sought) {
        int fitting = 0;
        for (int place = 0; place < countPlaces(searched, sought); place++) {
            if (fitsAt(searched, sought, place)) {
                fitting++;
            }
        }
        return fitting;
    }

    private static int countFalseOnes(Row searched, Row sought) {
        int falseOnes = 0;
        for (int place = 0; place < countPlaces(searched, sought); place++) {
            if (isFalseOne(searched, sought, place)) {
                falseOnes++;
            }
        }
        return falseOnes;
    }

    private static int firstFalseOne(Row searched, Row sought) {
        for (int place = 0; place < countPlaces(searched, sought); place++) {
            if (isFalseOne(searched, sought, place)) {
                return place;
            }
        }
        return NONE;
    }

    private static int greatestSum(Row searched, Row sought) {
        int greatest = 0;
        for (int place = 0; place < countPlaces(searched, sought); place++) {
            greatest = Math.max(greatest, sumAt(searched, sought, place));
        }
        return greatest;
    }

    // ---- texts

    /** How many characters a number gives; 0 if it gives none, or one of them is not allowed. */
    private static int countCharacters(long characters) {
        int many = 0;
        long left = characters;
        while (many < CHARACTERS_IN_A_LONG && left != 0) {
            int code = (int) (left & 0xFF);
            // A code of 0 with something above it is refused here, too.
            if (code < FIRST_CODE || code > LAST_CODE) {
                return 0;
            }
            many++;
            left >>>= 8;
        }
        return many;
    }

    /** A row. Its numbers from its length on are kept 0, so that it can be read there, and made longer. */
    private static final class Row {
        private final int[] numbers = new int[LONGEST_ROW];
        private int length = 1;

        int length() {
            return length;
        }

        int at(int place) {
            return place >= 0 && place < numbers.length ? numbers[place] : 0;
        }

        void write(int place, int number) {
            if (place >= 0 && place < numbers.length) {
                numbers[place] = Math.floorMod(number, PRIME);
            }
        }

        /** Cuts the row, or makes it longer by numbers that are 0. */
        void resize(int newLength) {
            for (int place = newLength; place < LONGEST_ROW; place++) {
                write(place, 0);
            }
            length = newLength;
        }

        void clear(int newLength) {
            Arrays.fill(numbers, 0);
            length = newLength;
        }

        void copyFrom(Row other) {
            System.arraycopy(other.numbers, 0, numbers, 0, LONGEST_ROW);
            length = other.length;
        }

        void scale(int factor) {
            for (int place = 0; place < length; place++) {
                write(place, at(place) * factor);
            }
        }

        int degree() {
            for (int place = length - 1; place >= 0; place--) {
                if (at(place) != 0) {
                    return place;
                }
            }
            return NONE;
        }

        int countNotZero() {
            int many = 0;
            for (int place = 0; place < length; place++) {
                if (at(place) != 0) {
                    many++;
                }
            }
            return many;
        }

        int total() {
            int total = 0;
            for (int place = 0; place < length; place++) {
                total += at(place);
            }
            return total;
        }

        int valueAt(int x) {
            int value = 0;
            for (int place = length - 1; place >= 0; place--) {
                value = (value * x + at(place)) % PRIME;
            }
            return value;
        }

        int countRoots() {
            int many = 0;
            for (int x = 0; x < PRIME; x++) {
                if (valueAt(x) == 0) {
                    many++;
                }
            }
            return many;
        }

        int leastRoot() {
            for (int x = 0; x < PRIME; x++) {
                if (valueAt(x) == 0) {
                    return x;
                }
            }
            return NONE;
        }
    }

    /** The rows of all registers: what is undone, saved and restored. */
    private static final class State {
        private final Row[] rows = new Row[REGISTERS];

        State() {
            for (int register = 0; register < rows.length; register++) {
                rows[register] = new Row();
            }
        }

        /** The row of a register; null if there is no such register. */
        Row rowOf(int register) {
            return register >= 0 && register < rows.length ? rows[register] : null;
        }

        int lengths() {
            int lengths = 0;
            for (int register = 0; register < rows.length; register++) {
                lengths += rows[register].length();
            }
            return lengths;
        }

        void copyFrom(State other) {
            for (int register = 0; register < rows.length; register++) {
                rows[register].copyFrom(other.rows[register]);
            }
        }
    }

    /** The states before the latest changes, the oldest one first. */
    private static final class History {
        private final State[] states = new State[STATES_KEPT];
        private int length = 0;

        History() {
            for (int i = 0; i < states.length; i++) {
                states[i] = new State();
            }
        }

        int length() {
            return length;
        }

        void keep(State state) {
            if (length >= states.length) {
                dropOldest();
            }
            states[length].copyFrom(state);
            length++;
        }

        /** Makes a state the latest one that was recorded, which is kept no longer. */
        void takeLatest(State state) {
            if (length > 0) {
                length--;
                state.copyFrom(states[length]);
            }
        }

        private void dropOldest() {
            // The object of the oldest state goes to the end, to be used again.
            State oldest = states[0];
            for (int i = 1; i < states.length; i++) {
                states[i - 1] = states[i];
            }
            length = states.length - 1;
            states[length] = oldest;
        }
    }

    /** The text that is read. */
    private static final class Pad {
        private final int[] codes = new int[LONGEST_PAD];
        private int length = 0;

        int length() {
            return length;
        }

        void empty() {
            length = 0;
        }

        void append(int code) {
            if (length < codes.length) {
                codes[length] = code;
                length++;
            }
        }

        /** Reads the text into a row, and returns NONE; or returns its fault, and the row is of no use then. */
        int scan(Row result) {
            int places = 0;
            int number = NONE;
            for (int i = 0; i < codes.length && i < length; i++) {
                if (codes[i] != ',') {
                    number = withDigit(number, codes[i]);
                    if (number == BAD_TEXT) {
                        return i;
                    }
                } else if (number == NONE) {
                    return i;
                } else {
                    result.write(places, number);
                    places++;
                    number = NONE;
                }
            }
            if (number == NONE) {
                return length;
            }
            result.resize(places + 1);
            result.write(places, number);
            return NONE;
        }

        /** A number (NONE if it has no digit yet) with one more digit; BAD_TEXT if this cannot stand there. */
        private static int withDigit(int number, int code) {
            if (code < '0' || code > '9' || number == 0) {
                return BAD_TEXT;
            }
            int longer = Math.max(number, 0) * 10 + code - '0';
            return longer < PRIME ? longer : BAD_TEXT;
        }
    }
}
