/** Every length, size and place there is, one after the other, each answer compared to the one of the Model. */
final class SweepsTest {
    private static final int[] SIZES = {1, 2, 4, 8, 16, 32, 64};

    private final Counted x = new Counted();
    private final Model y = new Model();

    public static void main(String[] args) {
        promise4And5EachPairOfLengths();
        promise6EachSize();
        promise7EachPowerOfEachLength();
        promise8EachLengthOfInverses();
        promise9EachPairOfDegrees();
        promise10EachDegreeOfADivisor();
        promise11And12EachLengthAndSize();
        promise14And15EachX();
        promise16EachPower();
        promise18To20EachPairOfLengths();
        promise23EachShortText();
        Checks.end();
    }

    /** Puts a dense row of a length into a register: the inverse of a short one. */
    private void dense(int register, int length, int seed) {
        set(5, 0, 1 + seed % 256);
        set(5, 1, 3 + seed % 7);
        set(5, 2, 256 - seed % 5);
        Checks.due("inverse by " + length, x.inverse(5, length, register), y.inverse(5, length, register));
    }

    private void set(int register, int place, int number) {
        x.set(register, place, number);
        y.set(register, place, number);
    }

    private void zeros(int register, int length) {
        x.round(4, 4, length, register);
        y.round(4, 4, length, register);
    }

    private void same(String call, long got, long want) {
        Checks.due(call, got, want);
    }

    private void sameRow(String call, int register) {
        int length = y.of(register, 0);
        same(call + ": length", x.of(register, 0), length);
        for (int place = 0; place < length; place++) {
            same(call + ": number " + place, x.number(register, place), y.number(register, place));
        }
    }

    private static void promise4And5EachPairOfLengths() {
        for (int first = 1; first <= 64; first++) {
            for (int second = 1; second <= 64; second++) {
                SweepsTest t = new SweepsTest();
                String call = "lengths " + first + ", " + second;
                t.dense(0, first, first + second);
                t.dense(1, second, 100 + second);
                t.same("product of " + call, t.x.product(0, 1, 2), t.y.product(0, 1, 2));
                t.sameRow("product of " + call, 2);
                int times = (first * 64 + second) % 257;
                t.same("add of " + call, t.x.add(0, 1, times, 3), t.y.add(0, 1, times, 3));
                t.sameRow("add of " + call, 3);
            }
        }
    }

    private static void promise6EachSize() {
        int[][] lengths = {{1, 1}, {1, 64}, {64, 1}, {7, 7}, {33, 20}, {40, 64}, {64, 64}};
        for (int[] pair : lengths) {
            for (int size = 1; size <= 64; size++) {
                SweepsTest t = new SweepsTest();
                String call = "round by " + size + " of lengths " + pair[0] + ", " + pair[1];
                t.dense(0, pair[0], size);
                t.dense(1, pair[1], 200 + size);
                t.same(call, t.x.round(0, 1, size, 2), t.y.round(0, 1, size, 2));
                t.sameRow(call, 2);
            }
        }
    }

    private static void promise7EachPowerOfEachLength() {
        for (int power = 0; power <= 9; power++) {
            for (int length = 1; length <= 64; length++) {
                SweepsTest t = new SweepsTest();
                String call = "power " + power + " of the length " + length;
                t.dense(0, length, length + power);
                t.same(call, t.x.power(0, power, 1), t.y.power(0, power, 1));
                t.sameRow(call, 1);
            }
        }
    }

    private static void promise8EachLengthOfInverses() {
        for (int length : new int[] {1, 2, 5, 31, 63, 64}) {
            for (int many = 1; many <= 64; many++) {
                SweepsTest t = new SweepsTest();
                String call = "inverse by " + many + " of the length " + length;
                t.dense(0, length, 5 * many);
                t.set(0, length - 1, 1 + many);
                t.same(call, t.x.inverse(0, many, 1), t.y.inverse(0, many, 1));
                t.sameRow(call, 1);
            }
        }
    }

    /** Each degree from NONE to 63, with numbers that are 0 at the end of one of both rows, or of both. */
    private static void promise9EachPairOfDegrees() {
        for (int first = 0; first <= 64; first++) {
            for (int second = 1; second <= 64; second++) {
                SweepsTest t = new SweepsTest();
                String call = "divide lengths " + first + ", " + second;
                t.dense(0, Math.max(first, 1), first + second);
                t.dense(1, second, 31 * second);
                t.set(0, Math.max(first, 1) - 1, first == 0 ? 0 : 1 + second);
                t.set(1, second - 1, 1 + first);
                if (second % 3 == 0) {
                    t.zeros(2, 64);
                    t.same(call + " with zeros", t.x.add(0, 2, 1, 0), t.y.add(0, 2, 1, 0));
                }
                if (first % 3 == 0) {
                    t.zeros(2, 64);
                    t.same(call + " by zeros", t.x.add(1, 2, 1, 1), t.y.add(1, 2, 1, 1));
                }
                t.same(call, t.x.divide(0, 1, 2, 3), t.y.divide(0, 1, 2, 3));
                t.sameRow(call + ", quotient", 2);
                t.sameRow(call + ", rest", 3);
            }
        }
    }

    /** Two rows that have a factor of each degree in common. */
    private static void promise10EachDegreeOfADivisor() {
        for (int common = 1; common <= 64; common++) {
            for (int other = 1; other <= 65 - common; other += 3) {
                SweepsTest t = new SweepsTest();
                String call = "divisor by " + common + " and " + other;
                t.dense(0, common, common);
                t.set(0, common - 1, 7);
                t.dense(1, other, other);
                t.dense(2, (other + 1) / 2, 99 * other);
                t.same(call, t.x.product(0, 1, 1), t.y.product(0, 1, 1));
                t.same(call, t.x.product(0, 2, 2), t.y.product(0, 2, 2));
                t.same(call, t.x.divisor(1, 2, 3), t.y.divisor(1, 2, 3));
                t.sameRow(call, 3);
                t.same(call, t.x.divisor(2, 1, 0), t.y.divisor(2, 1, 0));
                t.sameRow(call, 0);
            }
        }
    }

    private static void promise11And12EachLengthAndSize() {
        for (int size : SIZES) {
            for (int length = 1; length <= 64; length++) {
                SweepsTest t = new SweepsTest();
                String call = "length " + length + ", size " + size;
                t.dense(0, length, length);
                t.same("turn of " + call, t.x.turn(0, size, 1), t.y.turn(0, size, 1));
                t.sameRow("turn of " + call, 1);
                t.same("turnBack of " + call, t.x.turnBack(0, 2), t.y.turnBack(0, 2));
                t.sameRow("turnBack of " + call, 2);
                t.same("turnBack of turn of " + call, t.x.turnBack(1, 3), t.y.turnBack(1, 3));
                t.sameRow("turnBack of turn of " + call, 3);
            }
        }
    }

    private static void promise14And15EachX() {
        for (int length = 1; length <= 64; length++) {
            SweepsTest t = new SweepsTest();
            t.dense(0, length, 9 * length);
            for (int at = 0; at < 257; at++) {
                t.same("value at " + at + " of the length " + length, t.x.value(0, at), t.y.value(0, at));
            }
            for (int register = 0; register < 6; register++) {
                for (int what = 0; what < 6; what++) {
                    t.same("of " + register + ", " + what, t.x.of(register, what), t.y.of(register, what));
                }
            }
        }
        for (int root = 0; root < 257; root++) {
            SweepsTest t = new SweepsTest();
            t.set(0, 0, (257 - root) % 257);
            t.set(0, 1, 1);
            t.dense(1, 1 + root % 63, root);
            t.same("product with " + root, t.x.product(0, 1, 2), t.y.product(0, 1, 2));
            t.same("how many with " + root, t.x.of(2, 4), t.y.of(2, 4));
            t.same("the least with " + root, t.x.of(2, 5), t.y.of(2, 5));
            t.same("the least of one", t.x.of(0, 5), root);
            t.same("how many of one", t.x.of(0, 4), 1);
        }
    }

    private static void promise16EachPower() {
        for (int size : SIZES) {
            for (int first = 0; first <= 1000; first += 500) {
                SweepsTest t = new SweepsTest();
                for (int power = first; power < first + 500 && power <= 1000; power++) {
                    t.same("turningPoint(" + size + ", " + power + ")",
                            t.x.turningPoint(size, power), t.y.turningPoint(size, power));
                }
            }
        }
    }

    /** Texts and patterns of 0, 1, 2 and, seldom, greater numbers, so that places fit, do not, and are false ones. */
    private static void promise18To20EachPairOfLengths() {
        for (int text = 1; text <= 64; text++) {
            for (int pattern = 1; pattern <= 64; pattern++) {
                SweepsTest t = new SweepsTest();
                String call = "lengths " + text + ", " + pattern;
                t.fill(0, text, 7 * text + pattern);
                t.fill(1, pattern, 3 * pattern + 11 * text);
                t.same("fits of " + call, t.x.fits(0, 1), t.y.fits(0, 1));
                for (int what = 0; what < 4; what++) {
                    t.same("found of " + call + ", " + what, t.x.found(0, 1, what), t.y.found(0, 1, what));
                }
                for (int place = -1; place <= text - pattern + 1; place++) {
                    t.same("sum of " + call + ", " + place, t.x.sum(0, 1, place), t.y.sum(0, 1, place));
                }
            }
        }
    }

    private void fill(int register, int length, int seed) {
        for (int place = 0; place < length; place++) {
            int dice = (place * place * 31 + place * 17 + seed * 13) % 37;
            set(register, place, dice < 25 ? dice % 3 : dice < 34 ? 0 : 100 + dice);
        }
    }

    /** All texts of at most five of these characters. */
    private static void promise23EachShortText() {
        String characters = "02567,x";
        for (int length = 0; length <= 5; length++) {
            long many = Math.round(Math.pow(characters.length(), length));
            for (long number = 0; number < many; number++) {
                StringBuilder text = new StringBuilder();
                long left = number;
                for (int i = 0; i < length; i++) {
                    text.append(characters.charAt((int) (left % characters.length())));
                    left /= characters.length();
                }
                SweepsTest t = new SweepsTest();
                long packed = Checks.pack(text.toString());
                t.same("put of " + text, t.x.put(packed), t.y.put(packed));
                t.same("fault of " + text, t.x.fault(), t.y.fault());
                t.same("read of " + text, t.x.read(0), t.y.read(0));
                t.sameRow("read of " + text, 0);
            }
        }
    }
}
