/** The boundary cases of the promises 18 to 20, and of what the document's terms say of searching. */
final class SearchBoundariesTest {
    private static final int LEAST = Integer.MIN_VALUE;
    private static final int GREATEST = Integer.MAX_VALUE;
    private static final int[] NO_REGISTERS = {-1, 6, 7, LEAST, GREATEST};
    private static final long BELOW_60 = (1L << 60) - 1;

    public static void main(String[] args) {
        promise18Registers();
        promise18PatternAsLongAsTheText();
        promise18PatternLonger();
        promise18Blanks();
        promise18EachPlaceOfThePatternCounts();
        promise18PlacesBelow60();
        promise18LastPlaceOfEachLength();
        promise18FirstErrorFirst();
        promise19Registers();
        promise19Places();
        promise19PatternLonger();
        promise19BlanksAndSameNumbersAre0();
        promise19Modulo257();
        promise19LongestRows();
        promise19FirstErrorFirst();
        promise20Registers();
        promise20Whats();
        promise20PatternLonger();
        promise20PatternAsLongAsTheText();
        promise20HowManyFit();
        promise20FalsePlaces();
        promise20FalsePlacesAtBothEnds();
        promise20NoPlaceBeforeTheFirstOne();
        promise20NoPlaceBeyondTheLastOne();
        promise20NoFalseOne();
        promise20GreatestSum();
        promise20FirstErrorFirst();
        Checks.end();
    }

    /** An object with 1 to 6 rows, its text at the register 0 and its pattern at the register 1. */
    private static void dueFits(String call, long want, int[] text, int[] pattern) {
        Checks.leaves(() -> Checks.withRows(text, pattern), "fits of " + call, want, x -> x.fits(0, 1));
    }

    private static void dueFound(String call, int[] text, int[] pattern, int... want) {
        for (int what = 0; what < want.length; what++) {
            int asked = what;
            Checks.leaves(() -> Checks.withRows(text, pattern), "found of " + call + ", " + what, want[what],
                    x -> x.found(0, 1, asked));
        }
    }

    // ---- promise 18: fits

    private static void promise18Registers() {
        for (int none : NO_REGISTERS) {
            Checks.refused("fits(" + none + ", 2)", -1, x -> x.fits(none, 2));
            Checks.refused("fits(0, " + none + ")", -1, x -> x.fits(0, none));
        }
        for (int register = 0; register < 6; register++) {
            int of = register;
            Checks.asked("fits(" + of + ", " + of + ")", 1, x -> x.fits(of, of));
        }
    }

    /** "no longer": as long is allowed, and has the one place 0. */
    private static void promise18PatternAsLongAsTheText() {
        dueFits("one in the same one", 1, Checks.row(4), Checks.row(4));
        dueFits("one in another one", 0, Checks.row(4), Checks.row(5));
        dueFits("three in the same three", 1, Checks.row(1, 2, 3), Checks.row(1, 2, 3));
        dueFits("three in other ones", 0, Checks.row(1, 2, 3), Checks.row(1, 2, 4));
        dueFits("blanks in as many", 1, Checks.row(1, 2, 3), Checks.row(0, 0, 0));
        Checks.asked("fits(4, 4)", 1, x -> x.fits(4, 4));
    }

    /** "-5 if the pattern is longer": by one, by numbers that are 0, and by 63. */
    private static void promise18PatternLonger() {
        dueFits("two in one", -5, Checks.row(1), Checks.row(1, 1));
        dueFits("two blanks in one", -5, Checks.row(0), Checks.row(0, 0));
        dueFits("four in three", -5, Checks.row(1, 2, 3), Checks.row(1, 2, 3, 0));
        Checks.refused("fits(2, 4)", -5, x -> x.fits(2, 4));
        Checks.refused("fits(5, 4)", -5, x -> x.fits(5, 4));
    }

    /** "its number is 0, that of the text at p + k is 0, or both are the same". */
    private static void promise18Blanks() {
        dueFits("a blank", 0b1111, Checks.row(1, 0, 256, 3), Checks.row(0));
        dueFits("in blanks", 0b111, Checks.row(0, 0, 0, 0), Checks.row(1, 256));
        dueFits("blanks in blanks", 0b111, Checks.row(0, 0, 0, 0), Checks.row(0, 0));
        dueFits("a blank at its first place", 0b101, Checks.row(1, 5, 2, 5), Checks.row(0, 5));
        dueFits("a blank at its last place", 0b100, Checks.row(1, 5, 2, 5), Checks.row(2, 0));
        dueFits("a blank in the middle", 0b01, Checks.row(1, 5, 2, 5), Checks.row(1, 0, 2));
        dueFits("where the text has one", 0b11, Checks.row(1, 0, 2), Checks.row(1, 2));
        dueFits("256 in 256 and 255", 0b01, Checks.row(256, 255), Checks.row(256));
        dueFits("1 in 256", 0b0, Checks.row(256), Checks.row(1));
    }

    /** "for each place k of the pattern": the first one, the last one, and one between are wrong. */
    private static void promise18EachPlaceOfThePatternCounts() {
        dueFits("all the same", 0b1, Checks.row(1, 2, 3), Checks.row(1, 2, 3));
        dueFits("the first one wrong", 0b0, Checks.row(1, 2, 3), Checks.row(9, 2, 3));
        dueFits("the middle one wrong", 0b0, Checks.row(1, 2, 3), Checks.row(1, 9, 3));
        dueFits("the last one wrong", 0b0, Checks.row(1, 2, 3), Checks.row(1, 2, 9));
    }

    /** "the places below 60, as a set": 59 is the last one in it, 60 the first one that is not. */
    private static void promise18PlacesBelow60() {
        for (int place : new int[] {0, 1, 30, 31, 32, 33, 58, 59, 60, 61, 62, 63}) {
            int[] text = Checks.all(64, 8);
            text[place] = 5;
            dueFits("one at " + place, place < 60 ? 1L << place : 0, text, Checks.row(5));
        }
        dueFits("a blank in 64", BELOW_60, Checks.all(64, 8), Checks.row(0));
        dueFits("a blank in 61", BELOW_60, Checks.all(61, 8), Checks.row(0));
        dueFits("a blank in 60", BELOW_60, Checks.all(60, 8), Checks.row(0));
        dueFits("a blank in 59", BELOW_60 >> 1, Checks.all(59, 8), Checks.row(0));
        dueFits("five in 64", BELOW_60, Checks.all(64, 8), Checks.all(5, 8));
        dueFits("six in 64", BELOW_60 >> 1, Checks.all(64, 8), Checks.all(6, 8));
        dueFits("63 in 64", 0b11, Checks.all(64, 8), Checks.all(63, 8));
    }

    private static void promise18LastPlaceOfEachLength() {
        for (int length = 1; length < 60; length++) {
            Counted x = new Counted();
            x.round(0, 0, length, 1);
            x.set(1, length - 1, 3);
            x.set(2, 0, 3);
            x.set(3, 0, 4);
            Checks.due("3 in " + length, x.fits(1, 2), (1L << length) - 1);
            Checks.due("4 in " + length, x.fits(1, 3), (1L << length - 1) - 1);
        }
    }

    private static void promise18FirstErrorFirst() {
        Checks.refused("fits(6, 4)", -1, x -> x.fits(6, 4));
        Checks.refused("fits(2, 6)", -1, x -> x.fits(2, 6));
        Checks.refused("fits(-1, -1)", -1, x -> x.fits(-1, -1));
    }

    // ---- promise 19: sum

    private static void promise19Registers() {
        for (int none : NO_REGISTERS) {
            Checks.refused("sum(" + none + ", 2, 0)", Checks.NO_SUCH, x -> x.sum(none, 2, 0));
            Checks.refused("sum(0, " + none + ", 0)", Checks.NO_SUCH, x -> x.sum(0, none, 0));
        }
        for (int register = 0; register < 6; register++) {
            int of = register;
            Checks.asked("sum(" + of + ", " + of + ", 0)", 0, x -> x.sum(of, of, 0));
        }
        Checks.asked("sum(0, 2, 0)", 5 * 16, x -> x.sum(0, 2, 0));
    }

    /** "place: 0 to the length of the text less that of the pattern". */
    private static void promise19Places() {
        for (int place : new int[] {-1, 3, 4, 64, LEAST, GREATEST}) {
            Checks.refused("sum(0, 2, " + place + ")", Checks.BAD_VALUE, x -> x.sum(0, 2, place));
        }
        Checks.asked("sum(0, 2, 2)", 15 * 4, x -> x.sum(0, 2, 2));
        Checks.refused("sum(0, 3, 2)", Checks.BAD_VALUE, x -> x.sum(0, 3, 2));
        Checks.asked("sum(0, 3, 1)", 12, x -> x.sum(0, 3, 1));
        Checks.asked("sum(0, 3, 0)", 8 * 4, x -> x.sum(0, 3, 0));
        Checks.refused("sum(0, 0, 1)", Checks.BAD_VALUE, x -> x.sum(0, 0, 1));
        Checks.refused("sum(0, 0, -1)", Checks.BAD_VALUE, x -> x.sum(0, 0, -1));
        Checks.refused("sum(4, 2, 64)", Checks.BAD_VALUE, x -> x.sum(4, 2, 64));
        Checks.refused("sum(4, 5, 32)", Checks.BAD_VALUE, x -> x.sum(4, 5, 32));
        Checks.refused("sum(4, 4, 1)", Checks.BAD_VALUE, x -> x.sum(4, 4, 1));
        Checks.asked("sum(4, 4, 0)", 0, x -> x.sum(4, 4, 0));
        Checks.leaves(() -> Checks.withRows(Checks.all(64, 3), Checks.row(1)), "sum at the last place 63", 12,
                x -> x.sum(0, 1, 63));
    }

    /** "NOT_POSSIBLE if the pattern is longer". */
    private static void promise19PatternLonger() {
        Checks.refused("sum(2, 3, 0)", Checks.NOT_POSSIBLE, x -> x.sum(2, 3, 0));
        Checks.refused("sum(2, 1, 0)", Checks.NOT_POSSIBLE, x -> x.sum(2, 1, 0));
        Checks.refused("sum(3, 0, 0)", Checks.NOT_POSSIBLE, x -> x.sum(3, 0, 0));
        Checks.refused("sum(2, 4, 0)", Checks.NOT_POSSIBLE, x -> x.sum(2, 4, 0));
        Checks.asked("sum(3, 1, 0)", 0, x -> x.sum(3, 1, 0));
    }

    /** "Where the pattern fits, it is 0": blanks on each side and on both, and the same numbers. */
    private static void promise19BlanksAndSameNumbersAre0() {
        int[][] fitting = {{0, 0}, {0, 1}, {1, 0}, {0, 256}, {256, 0}, {1, 1}, {16, 16}, {255, 255}, {256, 256}};
        for (int[] pair : fitting) {
            Counted x = Checks.withRows(Checks.row(pair[0]), Checks.row(pair[1]));
            Checks.due("sum of " + pair[1] + " in " + pair[0], x.sum(0, 1, 0), 0);
        }
    }

    /** The greatest numbers, the greatest sum, and both signs of the difference. */
    private static void promise19Modulo257() {
        int[][] triples = {{1, 2, 2}, {2, 1, 2}, {1, 256, 253}, {256, 1, 253}, {255, 256, 2}, {256, 255, 2},
            {236, 255, 256}, {255, 236, 256}, {3, 1, 12}, {128, 1, 31}, {129, 1, 225}};
        for (int[] triple : triples) {
            long x = triple[0];
            long y = triple[1];
            Counted rows = Checks.withRows(Checks.row(triple[0]), Checks.row(triple[1]));
            Checks.due("sum of " + y + " in " + x, rows.sum(0, 1, 0), triple[2]);
            Checks.due("the same by long", x * y * (x - y) * (x - y) % 257, triple[2]);
        }
        // 256 and 1 is 257, 256 and 2 is 258, 256 and 256 is 512.
        Checks.leaves(() -> Checks.withRows(Checks.row(236, 2), Checks.row(255, 1)), "sum 256 + 2", 1, x -> x.sum(0, 1, 0));
        Checks.leaves(() -> Checks.withRows(Checks.row(236, 236), Checks.row(255, 255)), "sum 256 + 256", 255,
                x -> x.sum(0, 1, 0));
        Checks.leaves(() -> Checks.withRows(Checks.row(2, 126), Checks.row(1, 3)), "sum 2 + 255", 0, x -> x.sum(0, 1, 0));
    }

    private static void promise19LongestRows() {
        Checks.leaves(() -> Checks.withRows(Checks.all(64, 236), Checks.all(64, 255)), "sum of 64 times 256", 193,
                x -> x.sum(0, 1, 0));
        int[] text = Checks.all(64, 0);
        text[63] = 1;
        int[] pattern = Checks.all(64, 0);
        pattern[63] = 2;
        Checks.leaves(() -> Checks.withRows(text, pattern), "sum of the last of 64", 2, x -> x.sum(0, 1, 0));
    }

    private static void promise19FirstErrorFirst() {
        Checks.refused("sum(6, 4, -1)", Checks.NO_SUCH, x -> x.sum(6, 4, -1));
        Checks.refused("sum(2, -1, 9)", Checks.NO_SUCH, x -> x.sum(2, -1, 9));
        Checks.refused("sum(2, 4, -1)", Checks.NOT_POSSIBLE, x -> x.sum(2, 4, -1));
        Checks.refused("sum(2, 4, 1)", Checks.NOT_POSSIBLE, x -> x.sum(2, 4, 1));
        Checks.refused("sum(2, 4, LEAST)", Checks.NOT_POSSIBLE, x -> x.sum(2, 4, LEAST));
    }

    // ---- promise 20: found

    private static void promise20Registers() {
        for (int none : NO_REGISTERS) {
            for (int what = 0; what < 4; what++) {
                int asked = what;
                Checks.refused("found(" + none + ", 2, " + what + ")", Checks.NO_SUCH, x -> x.found(none, 2, asked));
                Checks.refused("found(0, " + none + ", " + what + ")", Checks.NO_SUCH, x -> x.found(0, none, asked));
            }
        }
        for (int register = 0; register < 6; register++) {
            int of = register;
            Checks.asked("found(" + of + ", " + of + ", 0)", 1, x -> x.found(of, of, 0));
        }
    }

    /** "what: 0 .. 3". */
    private static void promise20Whats() {
        for (int what : new int[] {-1, 4, 5, LEAST, GREATEST}) {
            Checks.refused("found(0, 2, " + what + ")", Checks.BAD_VALUE, x -> x.found(0, 2, what));
        }
        int[] answers = {0, 0, Checks.NONE, 90};
        for (int what = 0; what < 4; what++) {
            int asked = what;
            Checks.asked("found(0, 2, " + what + ")", answers[what], x -> x.found(0, 2, asked));
        }
    }

    /** "NOT_POSSIBLE if the pattern is longer". */
    private static void promise20PatternLonger() {
        for (int what = 0; what < 4; what++) {
            int asked = what;
            Checks.refused("found(2, 3, " + what + ")", Checks.NOT_POSSIBLE, x -> x.found(2, 3, asked));
            Checks.refused("found(2, 1, " + what + ")", Checks.NOT_POSSIBLE, x -> x.found(2, 1, asked));
            Checks.refused("found(5, 4, " + what + ")", Checks.NOT_POSSIBLE, x -> x.found(5, 4, asked));
        }
    }

    private static void promise20PatternAsLongAsTheText() {
        dueFound("one in the same one", Checks.row(4), Checks.row(4), 1, 0, Checks.NONE, 0);
        dueFound("one in another one", Checks.row(2), Checks.row(1), 0, 0, Checks.NONE, 2);
        dueFound("two that fit falsely", Checks.row(2, 126), Checks.row(1, 3), 0, 1, 0, 0);
        dueFound("blanks", Checks.row(1, 2, 3), Checks.row(0, 0, 0), 1, 0, Checks.NONE, 0);
        dueFound("64 in the same", Checks.all(64, 256), Checks.all(64, 256), 1, 0, Checks.NONE, 0);
        dueFound("64 in others", Checks.all(64, 236), Checks.all(64, 255), 0, 0, Checks.NONE, 193);
    }

    /** "how many fit": at all places, also at those that fits does not tell. */
    private static void promise20HowManyFit() {
        dueFound("a blank in 64", Checks.all(64, 8), Checks.row(0), 64, 0, Checks.NONE, 0);
        dueFound("five in 64", Checks.all(64, 8), Checks.all(5, 8), 60, 0, Checks.NONE, 0);
        dueFound("two in 64", Checks.all(64, 8), Checks.row(8, 0), 63, 0, Checks.NONE, 0);
        dueFound("none in 3", Checks.row(2, 2, 2), Checks.row(1), 0, 0, Checks.NONE, 2);
        for (int place : new int[] {0, 59, 60, 63}) {
            int[] text = Checks.all(64, 2);
            text[place] = 1;
            dueFound("one at " + place, text, Checks.row(1), 1, 0, Checks.NONE, 2);
        }
    }

    /** "A place where the sum is 0, but the pattern does not fit, is a false one." */
    private static void promise20FalsePlaces() {
        dueFound("a false one, one that fits", Checks.row(2, 126, 1, 3), Checks.row(1, 3), 1, 1, 0,
                greatest(Checks.row(2, 126, 1, 3), 1, 3));
        dueFound("one that fits, a false one", Checks.row(1, 3, 2, 126), Checks.row(1, 3), 1, 1, 2,
                greatest(Checks.row(1, 3, 2, 126), 1, 3));
        dueFound("two false ones", Checks.row(2, 126, 2, 126), Checks.row(1, 3), 0, 2, 0,
                greatest(Checks.row(2, 126, 2, 126), 1, 3));
        dueFound("a false one with a blank", Checks.row(2, 9, 126), Checks.row(1, 0, 3), 0, 1, 0, 0);
        dueFound("a sum that is not 0", Checks.row(2, 127), Checks.row(1, 3), 0, 0, Checks.NONE,
                greatest(Checks.row(2, 127), 1, 3));
    }

    private static int greatest(int[] text, long first, long second) {
        long greatest = 0;
        for (int p = 0; p < text.length - 1; p++) {
            greatest = Math.max(greatest, (first * text[p] * (first - text[p]) * (first - text[p])
                    + second * text[p + 1] * (second - text[p + 1]) * (second - text[p + 1])) % 257);
        }
        return (int) greatest;
    }

    /** "the first false one": at the first place, at the last one, at places above 60. */
    private static void promise20FalsePlacesAtBothEnds() {
        for (int place : new int[] {0, 1, 59, 60, 61, 62}) {
            int[] text = Checks.all(64, 0);
            text[place] = 2;
            text[place + 1] = 126;
            dueFound("a false one at " + place, text, Checks.row(1, 3), place == 0 || place == 62 ? 61 : 60, 1, place);
        }
        int[] text = Checks.all(64, 0);
        text[0] = 2;
        text[1] = 126;
        text[62] = 2;
        text[63] = 126;
        dueFound("false ones at both ends", text, Checks.row(1, 3), 59, 2, 0);
    }

    /** Everything is numbered from 0: what would fit, or be false, at the place -1. */
    private static void promise20NoPlaceBeforeTheFirstOne() {
        dueFound("a false one before the first place", Checks.row(2, 126, 9), Checks.row(5, 1, 3), 0, 0, Checks.NONE);
        dueFound("a fitting one before the first place", Checks.row(1, 3, 9), Checks.row(5, 1, 3), 0, 0, Checks.NONE);
        dueFound("the greatest sum before the first place", Checks.row(236, 0), Checks.row(0, 255), 1, 0, Checks.NONE, 0);
    }

    /** The last place is the length of the text less that of the pattern: what would fit, or be false, after it. */
    private static void promise20NoPlaceBeyondTheLastOne() {
        dueFound("a false one after the last place", Checks.row(9, 2, 126), Checks.row(1, 3, 5), 0, 0, Checks.NONE);
        dueFound("a fitting one after the last place", Checks.row(9, 1, 3), Checks.row(1, 3, 5), 0, 0, Checks.NONE);
        dueFound("the greatest sum after the last place", Checks.row(0, 255), Checks.row(236, 255), 1, 0, Checks.NONE, 0);
        dueFits("one after the last place", 0b0, Checks.row(9, 1, 3), Checks.row(1, 3, 5));
        dueFits("one after the last place, with a blank", 0b1, Checks.row(1, 1, 3), Checks.row(1, 0, 3));
    }

    /** "the first false one (NONE)": 0 is a place; fitting places are none. */
    private static void promise20NoFalseOne() {
        dueFound("all fit", Checks.row(1, 1, 1), Checks.row(1), 3, 0, Checks.NONE, 0);
        dueFound("blanks fit", Checks.row(0, 0, 0), Checks.row(1), 3, 0, Checks.NONE, 0);
        dueFound("none fits", Checks.row(2, 2, 2), Checks.row(1), 0, 0, Checks.NONE, 2);
    }

    /** "the greatest sum": 0, 256, at the first place, at the last one. */
    private static void promise20GreatestSum() {
        dueFound("256 first", Checks.row(236, 0, 0), Checks.row(255), 2, 0, Checks.NONE, 256);
        dueFound("256 last", Checks.row(0, 0, 236), Checks.row(255), 2, 0, Checks.NONE, 256);
        dueFound("256 in the middle", Checks.row(255, 236, 0), Checks.row(255), 2, 0, Checks.NONE, 256);
        for (int place : new int[] {59, 60, 63}) {
            int[] text = Checks.all(64, 0);
            text[place] = 236;
            dueFound("256 at " + place, text, Checks.row(255), 63, 0, Checks.NONE, 256);
        }
    }

    private static void promise20FirstErrorFirst() {
        Checks.refused("found(6, 4, 4)", Checks.NO_SUCH, x -> x.found(6, 4, 4));
        Checks.refused("found(2, -1, -1)", Checks.NO_SUCH, x -> x.found(2, -1, -1));
        Checks.refused("found(2, 4, 4)", Checks.NOT_POSSIBLE, x -> x.found(2, 4, 4));
        Checks.refused("found(2, 4, -1)", Checks.NOT_POSSIBLE, x -> x.found(2, 4, -1));
    }
}
