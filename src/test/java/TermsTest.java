/**
 * What the document's first sentence and its terms say of the results themselves, tried by plain arithmetic on the
 * numbers that the program answers, without the Model: each result has what the terms ask of it.
 */
final class TermsTest {
    private static final int PRIME = 257;
    private static final int LONGEST = 64;
    private static final int[] SIZES = {1, 2, 4, 8, 16, 32, 64};

    private int seed;

    private TermsTest(int seed) {
        this.seed = seed;
    }

    public static void main(String[] args) {
        promise6And11And12RowsAreMultipliedByTurningThem();
        promise4TheSumAtEachPlace();
        promise5TheSumsOfProducts();
        promise6TheSumsThatGoRound();
        promise7TheProductOfSoMany();
        promise8TheProductWithTheInverseIs1();
        promise8EachNumberHasOneInverse();
        promise9TheRowIsQuotientTimesDivisorAndRest();
        promise10TheDivisorDividesBothAndNoGreaterOneDoes();
        promise11TheValuesAtThePowersOfTheTurningPoint();
        promise12GivesTheRowWhenItIsTurned();
        promise14And15TheValuesOfARow();
        promise16ThreeToThePower();
        promise18To20PlacesSumsAndFalseOnes();
        Checks.end();
    }

    // ---- rows, as plain numbers

    /** A number of 0 to 256; the same ones each time. */
    private int number() {
        seed = (seed * 1103515245 + 12345) & 0x7FFF_FFFF;
        return (seed >> 8) % PRIME;
    }

    /** A row of a length whose last number is not 0. */
    private int[] row(int length) {
        int[] row = new int[length];
        for (int place = 0; place < length; place++) {
            row[place] = number();
        }
        row[length - 1] = Math.max(1, row[length - 1]);
        return row;
    }

    private static int at(int[] row, int place) {
        return place < row.length ? row[place] : 0;
    }

    private static int degree(int[] row) {
        int degree = Checks.NONE;
        for (int place = 0; place < row.length; place++) {
            degree = row[place] == 0 ? degree : place;
        }
        return degree;
    }

    private static int power(int base, int power) {
        int result = 1;
        for (int i = 0; i < power; i++) {
            result = result * base % PRIME;
        }
        return result;
    }

    private static int value(int[] row, int x) {
        long value = 0;
        for (int place = 0; place < row.length; place++) {
            value += (long) row[place] * power(x, place);
        }
        return (int) (value % PRIME);
    }

    private static int[] times(int[] first, int[] second) {
        int[] product = new int[first.length + second.length - 1];
        for (int i = 0; i < first.length; i++) {
            for (int j = 0; j < second.length; j++) {
                product[i + j] = (product[i + j] + first[i] * second[j]) % PRIME;
            }
        }
        return product;
    }

    private static int[] numbers(Counted x, int register) {
        int[] row = new int[x.of(register, 0)];
        for (int place = 0; place < row.length; place++) {
            row[place] = x.number(register, place);
        }
        return row;
    }

    // ---- "Rows of numbers modulo the prime 257 that are multiplied by turning them"

    private static void promise6And11And12RowsAreMultipliedByTurningThem() {
        for (int size : SIZES) {
            TermsTest t = new TermsTest(size);
            int[] first = t.row(size);
            int[] second = t.row((size + 1) / 2);
            Counted x = Checks.withRows(first, second);
            x.round(0, 1, size, 2);
            x.turn(0, size, 3);
            x.turn(1, size, 4);
            int[] turned = numbers(x, 3);
            for (int k = 0; k < size; k++) {
                x.set(3, k, turned[k] * x.number(4, k) % PRIME);
            }
            x.turnBack(3, 5);
            Checks.dueRow("the product by turning, " + size, x, 5, numbers(x, 2));
        }
    }

    // ---- products, quotients

    private static void promise4TheSumAtEachPlace() {
        for (int length = 1; length <= LONGEST; length += 9) {
            TermsTest t = new TermsTest(length);
            int[] first = t.row(length);
            int[] second = t.row(65 - length);
            int times = t.number();
            int[] sum = new int[Math.max(first.length, second.length)];
            for (int place = 0; place < sum.length; place++) {
                sum[place] = (at(first, place) + times * at(second, place)) % PRIME;
            }
            Counted x = Checks.withRows(first, second);
            Checks.due("add of " + length, x.add(0, 1, times, 2), sum.length);
            Checks.dueRow("add of " + length, x, 2, sum);
        }
    }

    private static void promise5TheSumsOfProducts() {
        for (int length = 1; length <= LONGEST; length += 7) {
            TermsTest t = new TermsTest(10 + length);
            int[] first = t.row(length);
            int[] second = t.row(65 - length);
            Counted x = Checks.withRows(first, second);
            Checks.due("product of " + length, x.product(0, 1, 2), LONGEST);
            Checks.dueRow("product of " + length, x, 2, times(first, second));
        }
    }

    private static void promise6TheSumsThatGoRound() {
        for (int size = 1; size <= LONGEST; size += 3) {
            TermsTest t = new TermsTest(20 + size);
            int[] first = t.row(40);
            int[] second = t.row(LONGEST);
            int[] sums = new int[size];
            int[] whole = times(first, second);
            for (int place = 0; place < whole.length; place++) {
                sums[place % size] = (sums[place % size] + whole[place]) % PRIME;
            }
            Counted x = Checks.withRows(first, second);
            Checks.due("round by " + size, x.round(0, 1, size, 2), degree(sums));
            Checks.dueRow("round by " + size, x, 2, sums);
        }
    }

    private static void promise7TheProductOfSoMany() {
        for (int power = 0; power <= 9; power++) {
            TermsTest t = new TermsTest(30 + power);
            int[] row = t.row(power < 2 ? LONGEST : 63 / power + 1);
            int[] product = {1};
            for (int i = 0; i < power; i++) {
                product = times(product, row);
            }
            Counted x = Checks.withRows(row);
            Checks.due("power " + power, x.power(0, power, 1), product.length);
            Checks.dueRow("power " + power, x, 1, product);
        }
    }

    /** "whose product with it has 1 at the place 0, and 0 at the places 1 to n - 1". */
    private static void promise8TheProductWithTheInverseIs1() {
        for (int many = 1; many <= LONGEST; many++) {
            TermsTest t = new TermsTest(40 + many);
            int[] row = t.row(1 + many * 5 % LONGEST);
            row[0] = Math.max(1, row[0]);
            Counted x = Checks.withRows(row);
            int answer = x.inverse(0, many, 1);
            int[] inverse = numbers(x, 1);
            Checks.due("inverse by " + many + ": its length", inverse.length, many);
            Checks.due("inverse by " + many, answer, degree(inverse));
            int[] product = times(row, inverse);
            for (int place = 0; place < many; place++) {
                Checks.due("inverse by " + many + ": its product at " + place, product[place], place == 0 ? 1 : 0);
            }
        }
    }

    /** "The inverse of a number a that is not 0 is the number that gives 1 with a." */
    private static void promise8EachNumberHasOneInverse() {
        Counted x = new Counted();
        boolean[] seen = new boolean[PRIME];
        for (int number = 1; number < PRIME; number++) {
            if (x.callsLeft() < 3) {
                x = new Counted();
            }
            x.set(0, 0, number);
            x.inverse(0, 1, 1);
            int inverse = x.number(1, 0);
            Checks.due("the inverse of " + number + ": the product", number * inverse % PRIME, 1);
            Checks.due("the inverse of " + number + " is that of another one", seen[inverse] ? 1 : 0, 0);
            seen[inverse] = true;
        }
    }

    /** "a is the sum of the product of q and b, and r, and the degree of r is less than that of b, or r is all 0". */
    private static void promise9TheRowIsQuotientTimesDivisorAndRest() {
        for (int length = 1; length <= LONGEST; length += 3) {
            for (int degree = 0; degree < LONGEST; degree += 4) {
                TermsTest t = new TermsTest(50 + 64 * length + degree);
                int[] row = t.row(length);
                int[] divisor = t.row(degree + 1);
                Counted x = Checks.withRows(row, divisor);
                String call = "divide of " + length + " by the degree " + degree;
                int answer = x.divide(0, 1, 2, 3);
                int[] quotient = numbers(x, 2);
                int[] rest = numbers(x, 3);
                int[] product = times(quotient, divisor);
                for (int place = 0; place < Math.max(length, product.length); place++) {
                    Checks.due(call + ": the sum at " + place, (at(product, place) + at(rest, place)) % PRIME, at(row, place));
                }
                Checks.due(call, answer, degree(rest));
                Checks.due(call + ": the degree of the rest is less", answer < degree ? 1 : 0, 1);
                Checks.due(call + ": length of the quotient", quotient.length, Math.max(1, length - 1 - degree + 1));
                Checks.due(call + ": length of the rest", rest.length, Math.max(1, degree));
            }
        }
    }

    /** "the row of the greatest degree that divides both without a rest": what is left of both has none in common. */
    private static void promise10TheDivisorDividesBothAndNoGreaterOneDoes() {
        for (int common = 1; common <= 60; common += 4) {
            TermsTest t = new TermsTest(60 + common);
            int[] factor = t.row(common);
            int[] first = times(factor, t.row(65 - common));
            int[] second = times(factor, t.row((65 - common) / 2));
            Counted x = Checks.withRows(first, second);
            String call = "divisor of a factor of " + common;
            int answer = x.divisor(0, 1, 2);
            Checks.due(call + ": its degree is the answer", x.of(2, 1), answer);
            Checks.due(call + ": at least that of the factor", Math.min(answer, common - 1), common - 1);
            Checks.due(call + ": its length", x.of(2, 0), answer + 1);
            Checks.due(call + ": 1 at its degree", x.number(2, answer), 1);
            Checks.due(call + ": the first rest", x.divide(0, 2, 3, 5), Checks.NONE);
            Checks.due(call + ": the second rest", x.divide(1, 2, 4, 5), Checks.NONE);
            Checks.due(call + ": that of the two quotients", x.divisor(3, 4, 5), 0);
        }
    }

    // ---- turning

    private static void promise11TheValuesAtThePowersOfTheTurningPoint() {
        for (int size : SIZES) {
            TermsTest t = new TermsTest(70 + size);
            int[] row = t.row((size * 3 + 3) / 4);
            int point = power(3, 256 / size);
            int[] values = new int[size];
            int zeros = 0;
            for (int k = 0; k < size; k++) {
                values[k] = value(row, power(point, k));
                zeros += values[k] == 0 ? 1 : 0;
            }
            Counted x = Checks.withRows(row);
            Checks.due("turn by " + size, x.turn(0, size, 1), zeros);
            Checks.dueRow("turn by " + size, x, 1, values);
        }
    }

    private static void promise12GivesTheRowWhenItIsTurned() {
        for (int size : SIZES) {
            TermsTest t = new TermsTest(80 + size);
            int[] row = t.row(size);
            Counted x = Checks.withRows(row);
            int answer = x.turnBack(0, 1);
            int[] back = numbers(x, 1);
            Checks.due("turnBack of " + size + ": its length", back.length, size);
            Checks.due("turnBack of " + size, answer, degree(back));
            int point = power(3, 256 / size);
            for (int k = 0; k < size; k++) {
                Checks.due("turnBack of " + size + ": its value at the power " + k, value(back, power(point, k)), row[k]);
            }
        }
    }

    private static void promise16ThreeToThePower() {
        for (int size : SIZES) {
            Counted x = new Counted();
            for (int power = 0; power <= 1000; power += power < 70 ? 1 : 31) {
                Checks.due("turningPoint(" + size + ", " + power + ")", x.turningPoint(size, power),
                        power(3, 256 / size * power % 256));
            }
        }
    }

    // ---- what there is

    private static void promise14And15TheValuesOfARow() {
        for (int length = 1; length <= LONGEST; length += 7) {
            TermsTest t = new TermsTest(90 + length);
            int[] row = length < 4 ? t.row(length) : times(times(t.row(2), t.row(2)), t.row(length - 2));
            Counted x = Checks.withRows(row);
            int many = 0;
            int least = Checks.NONE;
            for (int at = 256; at >= 0; at--) {
                int value = value(row, at);
                Checks.due("value(0, " + at + ") of " + length, x.value(0, at), value);
                many += value == 0 ? 1 : 0;
                least = value == 0 ? at : least;
            }
            Checks.due("of(0, 1) of " + length, x.of(0, 1), degree(row));
            Checks.due("of(0, 4) of " + length, x.of(0, 4), many);
            Checks.due("of(0, 5) of " + length, x.of(0, 5), least);
        }
    }

    // ---- searching

    /** The sums by long numbers, with their sign; each fourth number or so is a blank. */
    private static void promise18To20PlacesSumsAndFalseOnes() {
        for (int length = 1; length <= 12; length++) {
            TermsTest t = new TermsTest(100 + length);
            int[] text = t.withBlanks(LONGEST);
            int[] pattern = t.withBlanks(length);
            Counted x = Checks.withRows(text, pattern);
            long set = 0;
            int[] found = {0, 0, Checks.NONE, 0};
            for (int place = LONGEST - length; place >= 0; place--) {
                int sum = sum(text, pattern, place);
                boolean fits = fits(text, pattern, place);
                Checks.due("sum(0, 1, " + place + ") of " + length, x.sum(0, 1, place), sum);
                set |= fits && place < 60 ? 1L << place : 0;
                found[0] += fits ? 1 : 0;
                found[1] += !fits && sum == 0 ? 1 : 0;
                found[2] = !fits && sum == 0 ? place : found[2];
                found[3] = Math.max(found[3], sum);
                Checks.due("a sum that is not 0 where it fits", fits ? sum : 0, 0);
            }
            Checks.due("fits(0, 1) of " + length, x.fits(0, 1), set);
            for (int what = 0; what < 4; what++) {
                Checks.due("found(0, 1, " + what + ") of " + length, x.found(0, 1, what), found[what]);
            }
        }
    }

    /** Numbers of few different ones, 0 among them, of which 2 and 126 make false places where 1 and 3 are sought. */
    private int[] withBlanks(int length) {
        int[] choice = {0, 1, 3, 2, 126, 0, 1, 3};
        int[] row = new int[length];
        for (int place = 0; place < length; place++) {
            row[place] = choice[number() % choice.length];
        }
        return row;
    }

    private static boolean fits(int[] text, int[] pattern, int place) {
        for (int k = 0; k < pattern.length; k++) {
            if (pattern[k] != 0 && text[place + k] != 0 && pattern[k] != text[place + k]) {
                return false;
            }
        }
        return true;
    }

    private static int sum(int[] text, int[] pattern, int place) {
        long sum = 0;
        for (int k = 0; k < pattern.length; k++) {
            long x = pattern[k];
            long y = text[place + k];
            sum += x * y * (x - y) * (x - y);
        }
        return (int) (sum % PRIME);
    }
}
