import java.util.ArrayDeque;
import java.util.ArrayList;
import java.util.List;
import java.util.regex.Matcher;
import java.util.regex.Pattern;

/**
 * The document's class once more, written as plainly as its words and apart from the program:
 * inverses by trying, values by powers, rows turned back by solving for each number.
 */
final class Model {
    static final int NO_SUCH = -1, BAD_VALUE = -2, BAD_TEXT = -3, TOO_MANY = -4, NOT_POSSIBLE = -5, NONE = -6;

    private List<List<Integer>> rows = new ArrayList<>();
    private final ArrayDeque<List<List<Integer>>> history = new ArrayDeque<>();
    private final List<List<List<Integer>>> slots = new ArrayList<>();
    private String pad = "";

    Model() {
        for (int register = 0; register < 6; register++) {
            rows.add(List.of(0));
        }
        slots.add(null);
        slots.add(null);
    }

    /** The text that the program does not tell. */
    String pad() {
        return pad;
    }

    private static boolean noRegister(int... registers) {
        for (int register : registers) {
            if (register < 0 || register > 5) {
                return true;
            }
        }
        return false;
    }

    private static boolean outside(int number, int least, int greatest) {
        return number < least || number > greatest;
    }

    private void record() {
        history.addLast(new ArrayList<>(rows));
        if (history.size() > 6) {
            history.removeFirst();
        }
    }

    private static List<Integer> zeros(int length) {
        List<Integer> row = new ArrayList<>();
        for (int k = 0; k < length; k++) {
            row.add(0);
        }
        return row;
    }

    private static int at(List<Integer> row, int place) {
        return place < row.size() ? row.get(place) : 0;
    }

    private static int degree(List<Integer> row) {
        int degree = NONE;
        for (int k = 0; k < row.size(); k++) {
            degree = row.get(k) != 0 ? k : degree;
        }
        return degree;
    }

    private static int mod(long number) {
        return (int) ((number % 257 + 257) % 257);
    }

    private static int inverseOf(int number) {
        for (int b = 1; b < 257; b++) {
            if (number * b % 257 == 1) {
                return b;
            }
        }
        throw new IllegalStateException("no inverse of " + number);
    }

    private static int powerOf(int base, int power) {
        int result = 1;
        for (int i = 0; i < power; i++) {
            result = result * base % 257;
        }
        return result;
    }

    private static int valueOf(List<Integer> row, int x) {
        long value = 0;
        int power = 1;
        for (int number : row) {
            value += (long) number * power;
            power = power * x % 257;
        }
        return mod(value);
    }

    private static List<Integer> times(List<Integer> a, List<Integer> b) {
        List<Integer> result = new ArrayList<>();
        for (int k = 0; k < a.size() + b.size() - 1; k++) {
            long sum = 0;
            for (int i = 0; i <= k; i++) {
                sum += (long) at(a, i) * at(b, k - i);
            }
            result.add(mod(sum));
        }
        return result;
    }

    private static boolean noSize(int size) {
        return !List.of(1, 2, 4, 8, 16, 32, 64).contains(size);
    }

    /** The quotient and the rest. */
    private static List<List<Integer>> divided(List<Integer> a, List<Integer> b) {
        int degree = degree(b);
        List<Integer> quotient = zeros(degree(a) == NONE ? 1 : Math.max(1, degree(a) - degree + 1));
        List<Integer> rest = new ArrayList<>(a);
        while (degree(rest) >= degree) {
            int shift = degree(rest) - degree;
            quotient.set(shift, mod((long) rest.get(degree(rest)) * inverseOf(b.get(degree))));
            for (int k = degree; k >= 0; k--) {
                rest.set(shift + k, mod(rest.get(shift + k) - (long) quotient.get(shift) * b.get(k)));
            }
        }
        List<Integer> cut = new ArrayList<>();
        for (int k = 0; k < Math.max(1, degree); k++) {
            cut.add(at(rest, k));
        }
        return List.of(quotient, cut);
    }

    int read(int register) {
        if (noRegister(register)) {
            return NO_SUCH;
        }
        if (fault() != NONE) {
            return BAD_TEXT;
        }
        record();
        List<Integer> row = new ArrayList<>();
        for (String number : pad.split(",")) {
            row.add(Integer.parseInt(number));
        }
        rows.set(register, row);
        pad = "";
        return row.size();
    }

    int set(int register, int place, int number) {
        if (noRegister(register) || outside(place, 0, rows.get(register).size())) {
            return NO_SUCH;
        }
        if (outside(number, 0, 256)) {
            return BAD_VALUE;
        }
        if (place == 64) {
            return TOO_MANY;
        }
        record();
        List<Integer> row = new ArrayList<>(rows.get(register));
        if (place == row.size()) {
            row.add(number);
        } else {
            row.set(place, number);
        }
        rows.set(register, row);
        return row.size();
    }

    int add(int register, int other, int times, int to) {
        if (noRegister(register, other, to)) {
            return NO_SUCH;
        }
        if (outside(times, 0, 256)) {
            return BAD_VALUE;
        }
        record();
        List<Integer> a = rows.get(register);
        List<Integer> b = rows.get(other);
        List<Integer> sum = new ArrayList<>();
        for (int k = 0; k < Math.max(a.size(), b.size()); k++) {
            sum.add(mod(at(a, k) + (long) times * at(b, k)));
        }
        rows.set(to, sum);
        return sum.size();
    }

    int product(int register, int other, int to) {
        if (noRegister(register, other, to)) {
            return NO_SUCH;
        }
        List<Integer> result = times(rows.get(register), rows.get(other));
        if (result.size() > 64) {
            return TOO_MANY;
        }
        record();
        rows.set(to, result);
        return result.size();
    }

    int round(int register, int other, int size, int to) {
        if (noRegister(register, other, to)) {
            return NO_SUCH;
        }
        if (outside(size, 1, 64)) {
            return BAD_VALUE;
        }
        record();
        List<Integer> whole = times(rows.get(register), rows.get(other));
        List<Integer> result = zeros(size);
        for (int k = 0; k < whole.size(); k++) {
            result.set(k % size, mod(result.get(k % size) + whole.get(k)));
        }
        rows.set(to, result);
        return degree(result);
    }

    int power(int register, int power, int to) {
        if (noRegister(register, to)) {
            return NO_SUCH;
        }
        if (outside(power, 0, 9)) {
            return BAD_VALUE;
        }
        List<Integer> result = List.of(1);
        for (int i = 0; i < power; i++) {
            result = times(rows.get(register), result);
        }
        if (result.size() > 64) {
            return TOO_MANY;
        }
        record();
        rows.set(to, result);
        return result.size();
    }

    int inverse(int register, int many, int to) {
        if (noRegister(register, to)) {
            return NO_SUCH;
        }
        if (outside(many, 1, 64)) {
            return BAD_VALUE;
        }
        List<Integer> row = rows.get(register);
        if (row.get(0) == 0) {
            return NOT_POSSIBLE;
        }
        record();
        List<Integer> result = new ArrayList<>();
        for (int k = 0; k < many; k++) {
            long sum = 0;
            for (int i = 0; i < k; i++) {
                sum += (long) result.get(i) * at(row, k - i);
            }
            int found = 0;
            while (mod(sum + (long) found * row.get(0)) != (k == 0 ? 1 : 0)) {
                found++;
            }
            result.add(found);
        }
        rows.set(to, result);
        return degree(result);
    }

    int divide(int register, int other, int to, int toRest) {
        if (noRegister(register, other, to, toRest)) {
            return NO_SUCH;
        }
        if (to == toRest) {
            return BAD_VALUE;
        }
        if (degree(rows.get(other)) == NONE) {
            return NOT_POSSIBLE;
        }
        record();
        List<List<Integer>> both = divided(rows.get(register), rows.get(other));
        rows.set(to, both.get(0));
        rows.set(toRest, both.get(1));
        return degree(both.get(1));
    }

    int divisor(int register, int other, int to) {
        if (noRegister(register, other, to)) {
            return NO_SUCH;
        }
        List<Integer> a = rows.get(register);
        List<Integer> b = rows.get(other);
        if (degree(a) == NONE && degree(b) == NONE) {
            return NOT_POSSIBLE;
        }
        record();
        while (degree(b) != NONE) {
            List<Integer> rest = divided(a, b).get(1);
            a = b;
            b = rest;
        }
        List<Integer> result = new ArrayList<>();
        for (int k = 0; k <= degree(a); k++) {
            result.add(a.get(k) * inverseOf(a.get(degree(a))) % 257);
        }
        rows.set(to, result);
        return degree(result);
    }

    int turn(int register, int size, int to) {
        if (noRegister(register, to)) {
            return NO_SUCH;
        }
        if (noSize(size)) {
            return BAD_VALUE;
        }
        if (rows.get(register).size() > size) {
            return NOT_POSSIBLE;
        }
        record();
        List<Integer> result = new ArrayList<>();
        int zeros = 0;
        for (int k = 0; k < size; k++) {
            int value = valueOf(rows.get(register), powerOf(powerOf(3, 256 / size), k));
            zeros += value == 0 ? 1 : 0;
            result.add(value);
        }
        rows.set(to, result);
        return zeros;
    }

    int turnBack(int register, int to) {
        if (noRegister(register, to)) {
            return NO_SUCH;
        }
        List<Integer> row = rows.get(register);
        int size = row.size();
        if (noSize(size)) {
            return NOT_POSSIBLE;
        }
        record();
        int point = powerOf(3, 256 / size);
        List<Integer> result = new ArrayList<>();
        for (int k = 0; k < size; k++) {
            long sum = 0;
            for (int i = 0; i < size; i++) {
                sum += (long) row.get(i) * powerOf(point, (size - k) * i % size);
            }
            result.add(mod(sum * inverseOf(size)));
        }
        rows.set(to, result);
        return degree(result);
    }

    int number(int register, int place) {
        return noRegister(register) || outside(place, 0, rows.get(register).size() - 1)
                ? NO_SUCH : rows.get(register).get(place);
    }

    int of(int register, int what) {
        if (noRegister(register)) {
            return NO_SUCH;
        }
        List<Integer> row = rows.get(register);
        int notZero = 0;
        int total = 0;
        for (int number : row) {
            notZero += number == 0 ? 0 : 1;
            total += number;
        }
        List<Integer> roots = new ArrayList<>();
        for (int x = 0; x < 257; x++) {
            if (valueOf(row, x) == 0) {
                roots.add(x);
            }
        }
        int[] answers = {row.size(), degree(row), notZero, total, roots.size(), roots.isEmpty() ? NONE : roots.get(0)};
        return outside(what, 0, 5) ? BAD_VALUE : answers[what];
    }

    int value(int register, int x) {
        return noRegister(register) ? NO_SUCH : outside(x, 0, 256) ? BAD_VALUE : valueOf(rows.get(register), x);
    }

    int turningPoint(int size, int power) {
        return noSize(size) || outside(power, 0, 1000) ? BAD_VALUE : powerOf(powerOf(3, 256 / size), power);
    }

    private int lengths() {
        int lengths = 0;
        for (List<Integer> row : rows) {
            lengths += row.size();
        }
        return lengths;
    }

    int count(int what) {
        int[] answers = {lengths(), pad.length(), history.size()};
        return outside(what, 0, 2) ? BAD_VALUE : answers[what];
    }

    private boolean fitsAt(int text, int pattern, int place) {
        boolean fits = true;
        for (int k = 0; k < rows.get(pattern).size(); k++) {
            int x = rows.get(pattern).get(k);
            int y = rows.get(text).get(place + k);
            fits &= x == 0 || y == 0 || x == y;
        }
        return fits;
    }

    private int sumAt(int text, int pattern, int place) {
        long sum = 0;
        for (int k = 0; k < rows.get(pattern).size(); k++) {
            long x = rows.get(pattern).get(k);
            long y = rows.get(text).get(place + k);
            sum += x * y * (x - y) * (x - y);
        }
        return mod(sum);
    }

    private int last(int text, int pattern) {
        return rows.get(text).size() - rows.get(pattern).size();
    }

    long fits(int text, int pattern) {
        if (noRegister(text, pattern)) {
            return -1;
        }
        if (last(text, pattern) < 0) {
            return -5;
        }
        long set = 0;
        for (int place = 0; place <= Math.min(59, last(text, pattern)); place++) {
            set += fitsAt(text, pattern, place) ? 1L << place : 0;
        }
        return set;
    }

    int sum(int text, int pattern, int place) {
        if (noRegister(text, pattern)) {
            return NO_SUCH;
        }
        if (last(text, pattern) < 0) {
            return NOT_POSSIBLE;
        }
        return outside(place, 0, last(text, pattern)) ? BAD_VALUE : sumAt(text, pattern, place);
    }

    int found(int text, int pattern, int what) {
        if (noRegister(text, pattern)) {
            return NO_SUCH;
        }
        if (last(text, pattern) < 0) {
            return NOT_POSSIBLE;
        }
        int fitting = 0;
        List<Integer> falseOnes = new ArrayList<>();
        int greatest = 0;
        for (int place = 0; place <= last(text, pattern); place++) {
            int sum = sumAt(text, pattern, place);
            greatest = Math.max(greatest, sum);
            if (fitsAt(text, pattern, place)) {
                fitting++;
            } else if (sum == 0) {
                falseOnes.add(place);
            }
        }
        int[] answers = {fitting, falseOnes.size(), falseOnes.isEmpty() ? NONE : falseOnes.get(0), greatest};
        return outside(what, 0, 3) ? BAD_VALUE : answers[what];
    }

    int put(long characters) {
        String text = "";
        long left = characters;
        while ((left & 255) != 0) {
            text = (char) (left & 255) + text;
            left >>>= 8;
        }
        if (left != 0 || !text.matches("[!-~]+")) {
            return BAD_VALUE;
        }
        if (pad.length() + text.length() > 80) {
            return TOO_MANY;
        }
        pad += text;
        return pad.length();
    }

    int wipe() {
        int length = pad.length();
        pad = "";
        return length;
    }

    /** The longest start of the pad that some row starts with; a whole row has no fault. */
    int fault() {
        String number = "(0|[1-9][0-9]?|1[0-9][0-9]|2[0-4][0-9]|25[0-6])";
        if (pad.matches(number + "(," + number + ")*")) {
            return NONE;
        }
        Matcher start = Pattern.compile("(" + number + ",)*" + number + "?").matcher("");
        int longest = 0;
        for (int length = 1; length <= pad.length(); length++) {
            longest = start.reset(pad.substring(0, length)).matches() ? length : longest;
        }
        return longest;
    }

    int undo() {
        if (history.isEmpty()) {
            return NOT_POSSIBLE;
        }
        rows = history.removeLast();
        return history.size();
    }

    int save(int slot) {
        if (outside(slot, 0, 1)) {
            return BAD_VALUE;
        }
        slots.set(slot, new ArrayList<>(rows));
        return lengths();
    }

    int restore(int slot) {
        if (outside(slot, 0, 1)) {
            return BAD_VALUE;
        }
        if (slots.get(slot) == null) {
            return NOT_POSSIBLE;
        }
        record();
        rows = new ArrayList<>(slots.get(slot));
        return lengths();
    }
}
