/** The boundary cases of the promises 2 and 21 to 23, and of what the document's terms say of texts. */
final class TextsBoundariesTest {
    private static final int[] NO_REGISTERS = {-1, 6, 7, Integer.MIN_VALUE, Integer.MAX_VALUE};

    public static void main(String[] args) {
        promise2Registers();
        promise2PadWithAFault();
        promise2ShortestAndLongestRows();
        promise2EmptiesThePad();
        promise2NothingIsLeftOfALongerRow();
        promise2UndoLeavesThePad();
        promise2FirstErrorFirst();
        promise21CodesAtEachPlace();
        promise21OneToEightCharacters();
        promise21NoCharacter();
        promise21BitsAboveEightThatAre0();
        promise21OrderOfTheCharacters();
        promise21LongestPad();
        promise21FirstErrorFirst();
        promise22EmptyAndFullPad();
        promise22IsNoChange();
        promise23EmptyText();
        promise23EndsTooEarly();
        promise23LeadingZeros();
        promise23NumbersAbove256();
        promise23CodesNextToDigitsAndComma();
        promise23FirstOfManyFaults();
        promise23AtTheEndOfTheLongestPad();
        promise23ChangesNothing();
        Checks.end();
    }

    private static Counted padded(String text) {
        Counted x = Checks.full();
        x.wipe();
        Checks.type(x, text);
        return x;
    }

    // ---- promise 2: read

    private static void promise2Registers() {
        for (int none : NO_REGISTERS) {
            Checks.refused("read(" + none + ")", Checks.NO_SUCH, x -> x.read(none));
        }
        for (int register = 0; register < 6; register++) {
            Counted x = Checks.full();
            String[] before = digests(x);
            Checks.due("read(" + register + ")", x.read(register), 2);
            Checks.dueRow("read(" + register + ")", x, register, 7, 8);
            String[] after = digests(x);
            for (int other = 0; other < 6; other++) {
                if (other != register) {
                    Checks.dueText("read(" + register + "): the row of " + other, after[other], before[other]);
                }
            }
        }
    }

    private static String[] digests(Counted x) {
        String[] digests = new String[6];
        for (int register = 0; register < 6; register++) {
            digests[register] = Checks.digest(x, register);
        }
        return digests;
    }

    /** "BAD_TEXT if the pad has a fault": no pad with a fault is read, and it stays as it is. */
    private static void promise2PadWithAFault() {
        String[] texts = {"", ",", "1,", "1,,2", "00", "01", "257", "1,257", "1,2x", "x", "-1", "1,2,3,4,5,6,7,8,9,01"};
        for (String text : texts) {
            Checks.leaves(() -> padded(text), "read(0) of '" + text + "'", Checks.BAD_TEXT, x -> x.read(0));
            Checks.leaves(() -> padded(text), "read(5) of '" + text + "'", Checks.BAD_TEXT, x -> x.read(5));
        }
        Checks.leaves(Counted::new, "read(0) of a new pad", Checks.BAD_TEXT, x -> x.read(0));
        Checks.leaves(() -> padded("1,".repeat(40)), "read(0) of 80 that end too early", Checks.BAD_TEXT, x -> x.read(0));
    }

    /** Rows of 1 number, of 256, and of 40, more than which no pad can have. */
    private static void promise2ShortestAndLongestRows() {
        dueRead("0", 0);
        dueRead("256", 256);
        dueRead("0,0", 0, 0);
        dueRead("256,0,256,9,10,99,100,199,200,255", 256, 0, 256, 9, 10, 99, 100, 199, 200, 255);
        int[] forty = Checks.all(40, 5);
        dueRead("5,".repeat(39) + "5", forty);
        forty[39] = 56;
        dueRead("5,".repeat(39) + "56", forty);
        int[] wide = Checks.all(20, 256);
        dueRead("256,".repeat(19) + "256", wide);
    }

    private static void dueRead(String text, int... row) {
        Counted x = padded(text);
        Checks.due("fault of " + text, x.fault(), Checks.NONE);
        Checks.due("read of " + text, x.read(4), row.length);
        Checks.dueRow("read of " + text, x, 4, row);
        Checks.due("read of " + text + ": count(1) then", x.count(1), 0);
    }

    /** "and empties the pad": so that it has a fault, no length, and room for 80 characters. */
    private static void promise2EmptiesThePad() {
        Counted x = new Counted();
        Checks.type(x, "1,".repeat(39) + "10");
        Checks.due("read(0) of 80", x.read(0), 40);
        Checks.due("count(1) then", x.count(1), 0);
        Checks.due("fault then", x.fault(), 0);
        Checks.due("read(0) again", x.read(0), Checks.BAD_TEXT);
        Checks.type(x, "2,".repeat(39) + "20");
        Checks.due("read(1) of 80", x.read(1), 40);
        Checks.due("number(1, 39)", x.number(1, 39), 20);
        Checks.due("wipe then", x.wipe(), 0);
    }

    private static void promise2NothingIsLeftOfALongerRow() {
        Counted x = padded("3");
        Checks.due("read(4)", x.read(4), 1);
        Checks.dueRow("read(4)", x, 4, 3);
        Checks.due("number(4, 1)", x.number(4, 1), Checks.NO_SUCH);
        Checks.due("set(4, 1, 0)", x.set(4, 1, 0), 2);
        x.round(5, 1, 64, 5);
        Checks.due("add(4, 5, 1, 4)", x.add(4, 5, 1, 4), 64);
        Checks.due("the sum of the row then", x.of(4, 3), 3);
    }

    /** It is a change that can be undone, but the pad stays empty, or what it has become since. */
    private static void promise2UndoLeavesThePad() {
        Counted x = new Counted();
        Checks.type(x, "1,2");
        x.read(0);
        Checks.due("count(2)", x.count(2), 1);
        Checks.due("undo", x.undo(), 0);
        Checks.dueRow("undo", x, 0, 0);
        Checks.due("count(1) after undo", x.count(1), 0);
        Checks.type(x, "4,5,6");
        x.read(1);
        Checks.type(x, "7");
        Checks.due("undo", x.undo(), 0);
        Checks.due("count(1) after undo", x.count(1), 1);
        Checks.due("read(2)", x.read(2), 1);
        Checks.dueRow("read(2)", x, 2, 7);
    }

    private static void promise2FirstErrorFirst() {
        Checks.leaves(() -> padded("1,"), "read(6) of '1,'", Checks.NO_SUCH, x -> x.read(6));
        Checks.leaves(() -> padded(""), "read(-1) of ''", Checks.NO_SUCH, x -> x.read(-1));
    }

    // ---- promise 21: put

    /** "a code is not 33 to 126": as each of 1 to 8 characters; the codes 33 and 126 are a fault where they stand. */
    private static void promise21CodesAtEachPlace() {
        for (int many = 1; many <= 8; many++) {
            for (int place = 0; place < many; place++) {
                for (int code : new int[] {1, 32, 33, 126, 127, 128, 255}) {
                    boolean in = code == 33 || code == 126;
                    StringBuilder text = new StringBuilder("1,2,3,4,".substring(0, many));
                    text.setCharAt(place, (char) code);
                    Counted x = new Counted();
                    String call = "put of " + many + " with " + code + " at " + place;
                    Checks.due(call, x.put(Checks.pack(text.toString())), in ? many : Checks.BAD_VALUE);
                    Checks.due(call + ": count(1)", x.count(1), in ? many : 0);
                    Checks.due(call + ": fault", x.fault(), in ? place : 0);
                }
            }
        }
        for (long code : new long[] {1, 32, 127, 128, 255}) {
            Checks.refused("put(" + code + ")", Checks.BAD_VALUE, x -> x.put(code));
        }
    }

    /** "1 to 8 characters". */
    private static void promise21OneToEightCharacters() {
        String text = "1,2,3,4,";
        for (int many = 1; many <= 8; many++) {
            Counted x = new Counted();
            Checks.due("put of " + many, x.put(Checks.pack(text.substring(0, many))), many);
            Checks.due("put of " + many + " more", x.put(Checks.pack(text.substring(0, many))), 2 * many);
        }
        Counted x = new Counted();
        Checks.due("put of 8 of the greatest code", x.put(0x7E7E7E7E7E7E7E7EL), 8);
        Checks.due("put of 8 of the least code", x.put(0x2121212121212121L), 16);
    }

    /** "BAD_VALUE if there is no character". */
    private static void promise21NoCharacter() {
        Checks.refused("put(0)", Checks.BAD_VALUE, x -> x.put(0));
        Checks.leaves(Counted::new, "put(0) to an empty pad", Checks.BAD_VALUE, x -> x.put(0));
    }

    /** "or a bit above 8 bits that are 0 is not 0": at each place, the lowest bit above and the highest one. */
    private static void promise21BitsAboveEightThatAre0() {
        Checks.refused("put(1 << 8)", Checks.BAD_VALUE, x -> x.put(1L << 8));
        Checks.refused("put('1' << 8)", Checks.BAD_VALUE, x -> x.put('1' << 8));
        Checks.refused("put('1' << 56)", Checks.BAD_VALUE, x -> x.put((long) '1' << 56));
        Checks.refused("put(LEAST)", Checks.BAD_VALUE, x -> x.put(Long.MIN_VALUE));
        long characters = 0;
        for (int many = 1; many <= 6; many++) {
            characters = characters << 8 | '5';
            long low = characters;
            for (int bit = 8 * many + 8; bit < 64; bit++) {
                long wrong = low | 1L << bit;
                Counted x = new Counted();
                Checks.due("put(" + Long.toHexString(wrong) + ")", x.put(wrong), Checks.BAD_VALUE);
                Checks.due("put(" + Long.toHexString(wrong) + "): count(1)", x.count(1), 0);
            }
            long above = low | (long) '5' << 56;
            Checks.refused("put(" + Long.toHexString(above) + ")", Checks.BAD_VALUE, x -> x.put(above));
            Checks.due("put(" + Long.toHexString(low) + ")", new Counted().put(low), many);
        }
    }

    /** "its lowest 8 bits are the last character, the next 8 bits the one before". */
    private static void promise21OrderOfTheCharacters() {
        Counted x = new Counted();
        Checks.due("put of 12", x.put('1' << 8 | '2'), 2);
        Checks.due("put of ,3", x.put(',' << 8 | '3'), 4);
        Checks.due("read", x.read(0), 2);
        Checks.dueRow("read", x, 0, 12, 3);
        Checks.due("put of 1,2,3,45", x.put(0x312C322C332C3435L), 8);
        Checks.due("read", x.read(0), 4);
        Checks.dueRow("read", x, 0, 1, 2, 3, 45);
    }

    /** "at most 80 characters", "TOO_MANY if the pad would be longer than 80": from each length near it. */
    private static void promise21LongestPad() {
        for (int length = 71; length <= 80; length++) {
            for (int many = 1; many <= 8; many++) {
                String text = "1,".repeat(40).substring(0, length);
                long more = Checks.pack("77777777".substring(0, many));
                boolean in = length + many <= 80;
                Counted x = new Counted();
                Checks.type(x, text);
                String call = "put of " + many + " to " + length;
                Checks.due(call, x.put(more), in ? length + many : Checks.TOO_MANY);
                Checks.due(call + ": count(1)", x.count(1), in ? length + many : length);
            }
        }
        Checks.leaves(() -> {
            Counted x = Checks.full(false, false);
            x.wipe();
            Checks.type(x, "1,".repeat(40));
            return x;
        }, "put of 1 to 80, empty slots", Checks.TOO_MANY, x -> x.put('3'));
        Checks.leaves(() -> padded("1,".repeat(39) + "1"), "put of 2 to 79", Checks.TOO_MANY, x -> x.put(Checks.pack("23")));
        Checks.leaves(() -> padded("1,".repeat(39) + "12"), "put of 1 to 80", Checks.TOO_MANY, x -> x.put('3'));
        Checks.leaves(() -> padded("1,".repeat(36) + "1"), "put of 8 to 73", Checks.TOO_MANY,
                x -> x.put(Checks.pack("23,45,67")));
    }

    private static void promise21FirstErrorFirst() {
        Checks.Maker fullPad = () -> padded("1,".repeat(39) + "12");
        Checks.leaves(fullPad, "put(0) to 80", Checks.BAD_VALUE, x -> x.put(0));
        Checks.leaves(fullPad, "put(32) to 80", Checks.BAD_VALUE, x -> x.put(32));
        Checks.leaves(fullPad, "put(127) to 80", Checks.BAD_VALUE, x -> x.put(127));
        Checks.leaves(fullPad, "put(0x310031) to 80", Checks.BAD_VALUE, x -> x.put(0x310031));
        Checks.leaves(fullPad, "put(-1) to 80", Checks.BAD_VALUE, x -> x.put(-1));
        Checks.leaves(() -> padded("1,".repeat(36) + "1"), "put of 8 with a wrong one to 73", Checks.BAD_VALUE,
                x -> x.put(0x2031313131313131L));
    }

    // ---- promise 22: wipe

    /** "returns the length that it had": 0, 1, 80. */
    private static void promise22EmptyAndFullPad() {
        Checks.leaves(Counted::new, "wipe of an empty pad", 0, x -> x.wipe());
        Counted x = new Counted();
        Checks.type(x, "1");
        Checks.due("wipe of 1", x.wipe(), 1);
        Checks.due("wipe of 0", x.wipe(), 0);
        Checks.type(x, "1,".repeat(40));
        Checks.due("wipe of 80", x.wipe(), 80);
        Checks.due("wipe of 0", x.wipe(), 0);
        Checks.due("count(1)", x.count(1), 0);
        Checks.due("fault", x.fault(), 0);
        Checks.type(x, "3,".repeat(39) + "33");
        Checks.due("read(0) of 80", x.read(0), 40);
        Checks.due("number(0, 39)", x.number(0, 39), 33);
    }

    /** It is among the texts, not the changes: it is not undone, and records nothing. */
    private static void promise22IsNoChange() {
        Checks.leaves(() -> padded(""), "wipe of what was put", 3, x -> {
            Checks.type(x, "4,5");
            return x.wipe();
        });
        Counted x = Checks.full();
        x.wipe();
        Checks.due("undo after wipe", x.undo(), 5);
        Checks.due("count(1) after undo", x.count(1), 0);
    }

    // ---- promise 23: fault

    private static void dueFault(String text, int want) {
        Counted x = new Counted();
        Checks.type(x, text);
        Checks.due("fault of '" + text + "'", x.fault(), want);
        Checks.due("fault of '" + text + "' again", x.fault(), want);
        Checks.due("read of '" + text + "'", x.read(0) > 0 ? 1 : 0, want == Checks.NONE ? 1 : 0);
    }

    /** "(also if it is empty), it is the length of the text". */
    private static void promise23EmptyText() {
        dueFault("", 0);
        Counted x = Checks.full();
        x.wipe();
        Checks.due("fault of a wiped pad", x.fault(), 0);
        Checks.type(x, "1");
        x.read(0);
        Checks.due("fault of a pad that was read", x.fault(), 0);
    }

    /** "if there is none and the text ends too early". */
    private static void promise23EndsTooEarly() {
        dueFault("1,", 2);
        dueFault("0,", 2);
        dueFault("256,", 4);
        dueFault("1,2,", 4);
        dueFault("1", Checks.NONE);
        dueFault("1,2", Checks.NONE);
        dueFault("1,".repeat(40), 80);
        dueFault("1,".repeat(39), 78);
        dueFault("1,".repeat(39) + "1", Checks.NONE);
    }

    /** "without leading zeros": 0 alone is a number. */
    private static void promise23LeadingZeros() {
        dueFault("0", Checks.NONE);
        dueFault("0,0", Checks.NONE);
        dueFault("00", 1);
        dueFault("01", 1);
        dueFault("09", 1);
        dueFault("000", 1);
        dueFault("0256", 1);
        dueFault("10", Checks.NONE);
        dueFault("100", Checks.NONE);
        dueFault("1,00", 3);
        dueFault("1,0,05", 5);
        dueFault("101,0", Checks.NONE);
    }

    /** "(also of a digit by which a number would be above 256)". */
    private static void promise23NumbersAbove256() {
        for (String before : new String[] {"", "0,", "256,9,"}) {
            for (int number : new int[] {0, 1, 9, 10, 25, 26, 99, 100, 199, 200, 249, 250, 255, 256}) {
                dueFault(before + number, Checks.NONE);
                dueFault(before + number + ",", (before + number).length() + 1);
            }
            for (int number : new int[] {257, 258, 259, 260, 299, 300, 500, 999}) {
                dueFault(before + number, before.length() + 2);
            }
            for (int number : new int[] {1000, 2000, 2560, 2559, 1999, 9999}) {
                dueFault(before + number, before.length() + (number < 2570 ? 3 : 2));
            }
            dueFault(before + "99999999999999999999", before.length() + 2);
            dueFault(before + "25600000000000000000", before.length() + 3);
            dueFault(before + "42949672960", before.length() + 2);
        }
    }

    /** The codes below and above those of the digits and of the comma, where a number begins, and within it. */
    private static void promise23CodesNextToDigitsAndComma() {
        for (char code : new char[] {'!', '+', '-', '.', '/', ':', ';', '~'}) {
            dueFault("" + code, 0);
            dueFault("1" + code, 1);
            dueFault("0" + code, 1);
            dueFault("256" + code, 3);
            dueFault("1," + code, 2);
            dueFault("1,2" + code + "3", 3);
        }
        dueFault("/", 0);
        dueFault(":", 0);
        dueFault("9", Checks.NONE);
        dueFault(",", 0);
        dueFault(",1", 0);
        dueFault("1,,", 2);
        dueFault("1,,1", 2);
    }

    /** "the first character that cannot stand at its place when the text is read from left to right". */
    private static void promise23FirstOfManyFaults() {
        dueFault("x,257", 0);
        dueFault("257,x", 2);
        dueFault("1,01,257", 3);
        dueFault("1,257,01", 4);
        dueFault("1,2x,", 3);
        dueFault("1,x,", 2);
    }

    private static void promise23AtTheEndOfTheLongestPad() {
        String most = "1,".repeat(39);
        dueFault(most + "25", Checks.NONE);
        dueFault(most + "01", 79);
        dueFault(most + "1x", 79);
        dueFault(most + "x1", 78);
        dueFault(most + "1,", 80);
        dueFault(most + ",1", 78);
        dueFault(most.substring(2) + "11,1", Checks.NONE);
        dueFault(most.substring(4) + "11,256", Checks.NONE);
        dueFault(most.substring(4) + "11,257", 79);
    }

    private static void promise23ChangesNothing() {
        Checks.asked("fault of a row", Checks.NONE, x -> x.fault());
        Checks.leaves(() -> padded("1,"), "fault of '1,'", 2, x -> x.fault());
        Checks.leaves(() -> padded(""), "fault of ''", 0, x -> x.fault());
        Checks.leaves(() -> padded("300"), "fault of '300'", 2, x -> x.fault());
    }
}
