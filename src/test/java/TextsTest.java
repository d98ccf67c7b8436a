/** Promises 2 and 21 to 23: the pad, its fault, and rows that are read from it. */
final class TextsTest {
    public static void main(String[] args) {
        promise2Read();
        promise2ReadLong();
        promise2ReadErrors();
        promise21Put();
        promise21PutErrors();
        promise21PutTooMany();
        promise22Wipe();
        promise23Fault();
        promise23FaultAtEachCode();
        Checks.end();
    }

    private static void promise2Read() {
        Counted x = new Counted();
        Checks.type(x, "0,256,10,0");
        Checks.due("read(3)", x.read(3), 4);
        Checks.dueRow("read(3)", x, 3, 0, 256, 10, 0);
        Checks.due("the pad after read", x.count(1), 0);
        Checks.due("the fault after read", x.fault(), 0);
        Checks.due("count(2) after read", x.count(2), 1);
        Checks.type(x, "9");
        Checks.due("read(3)", x.read(3), 1);
        Checks.dueRow("a shorter row", x, 3, 9);
        Checks.due("set(3, 1, 0)", x.set(3, 1, 0), 2);
        Checks.due("set(3, 2, 0)", x.set(3, 2, 0), 3);
        Checks.dueRow("nothing is left of the longer one", x, 3, 9, 0, 0);
        Checks.type(x, "44,5");
        x.undo();
        x.undo();
        x.undo();
        Checks.due("the pad after undo", x.count(1), 4);
        Checks.dueRow("undo", x, 3, 0, 256, 10, 0);
        Checks.due("read(0)", x.read(0), 2);
        Checks.dueRow("read(0)", x, 0, 44, 5);
    }

    private static void promise2ReadLong() {
        Counted x = new Counted();
        StringBuilder text = new StringBuilder("7");
        for (int place = 1; place < 40; place++) {
            text.append(",").append(place % 10);
        }
        Checks.type(x, text.toString());
        Checks.due("fault of 40 numbers", x.fault(), Checks.NONE);
        Checks.due("read(0)", x.read(0), 40);
        Checks.due("number(0, 0)", x.number(0, 0), 7);
        for (int place = 1; place < 40; place++) {
            Checks.due("number(0, " + place + ")", x.number(0, place), place % 10);
        }
        Checks.type(x, "256,".repeat(19) + "2,34");
        Checks.due("the longest pad", x.count(1), 80);
        Checks.due("read(1)", x.read(1), 21);
        Checks.due("number(1, 18)", x.number(1, 18), 256);
        Checks.due("number(1, 20)", x.number(1, 20), 34);
    }

    private static void promise2ReadErrors() {
        Counted x = new Counted();
        Checks.unchanged(x, "read(0) of nothing", Checks.BAD_TEXT, () -> x.read(0));
        Checks.unchanged(x, "read(6) of nothing", Checks.NO_SUCH, () -> x.read(6));
        Checks.unchanged(x, "read(-1) of nothing", Checks.NO_SUCH, () -> x.read(-1));
        Checks.type(x, "1,2,");
        Checks.unchanged(x, "read(0) of 1,2,", Checks.BAD_TEXT, () -> x.read(0));
        Checks.unchanged(x, "read(6) of 1,2,", Checks.NO_SUCH, () -> x.read(6));
        Checks.due("put of 3", x.put(Checks.pack("3")), 5);
        Checks.unchanged(x, "read(6) of 1,2,3", Checks.NO_SUCH, () -> x.read(6));
        Checks.due("read(0) of 1,2,3", x.read(0), 3);
    }

    private static void promise21Put() {
        Counted x = new Counted();
        Checks.due("put of 1,2", x.put('1' << 16 | ',' << 8 | '2'), 3);
        Checks.due("put of ,", x.put(','), 4);
        Checks.due("put of 34,56,78", x.put(0x33342C35362C3738L), 12);
        Checks.due("read", x.read(0), 5);
        Checks.dueRow("read", x, 0, 1, 2, 34, 56, 78);
        Checks.due("put is no change", x.count(2), 1);
        Checks.due("put of ! and ~", x.put(33 << 8 | 126), 2);
        Checks.due("put of 8 ~", x.put(0x7E7E7E7E7E7E7E7EL), 10);
        Checks.due("put of 8 !", x.put(0x2121212121212121L), 18);
        Checks.due("count(2)", x.count(2), 1);
    }

    private static void promise21PutErrors() {
        long[] wrong = {0, 32, 127, 128, 255, 1, 0x3100, 0x310032, 0x31000000L, 0x3132_0033_3435_3637L,
            0x0100_0000_0000_0031L, 0x3100_0000_0000_0031L, 0x8131313131313131L, 0xFF31313131313131L,
            0x2031313131313131L, 0x3131313131313120L, 0x313131317F313131L, 0x3131313131313100L,
            -1, Long.MIN_VALUE, Long.MAX_VALUE};
        for (long characters : wrong) {
            Counted x = new Counted();
            Checks.type(x, "12");
            Checks.unchanged(x, "put(" + Long.toHexString(characters) + ")", Checks.BAD_VALUE, () -> x.put(characters));
        }
        for (long code = 0; code < 256; code++) {
            Counted y = new Counted();
            Checks.due("put(" + code + ")", y.put(code), code >= 33 && code <= 126 ? 1 : Checks.BAD_VALUE);
        }
    }

    private static void promise21PutTooMany() {
        Counted x = new Counted();
        Checks.type(x, "1,".repeat(37));
        Checks.due("74 characters", x.count(1), 74);
        Checks.unchanged(x, "put of 8", Checks.TOO_MANY, () -> x.put(Checks.pack("12345678")));
        Checks.unchanged(x, "put of 7", Checks.TOO_MANY, () -> x.put(Checks.pack("1234567")));
        Checks.unchanged(x, "put of 8 wrong ones", Checks.BAD_VALUE, () -> x.put(-1));
        Checks.due("put of 6", x.put(Checks.pack("1,2,3,")), 80);
        Checks.unchanged(x, "put of 1", Checks.TOO_MANY, () -> x.put('1'));
        Checks.unchanged(x, "put of none", Checks.BAD_VALUE, () -> x.put(0));
        Checks.due("fault", x.fault(), 80);
    }

    private static void promise22Wipe() {
        Counted x = new Counted();
        Checks.due("wipe of nothing", x.wipe(), 0);
        Checks.type(x, "1,2,3,4,5x");
        Checks.due("wipe", x.wipe(), 10);
        Checks.due("count(1)", x.count(1), 0);
        Checks.due("wipe again", x.wipe(), 0);
        Checks.due("wipe is no change", x.count(2), 0);
        Checks.type(x, "77");
        Checks.due("read", x.read(0), 1);
        Checks.dueRow("nothing is left", x, 0, 77);
    }

    private static void promise23Fault() {
        dueFault("", 0);
        dueFault("0", Checks.NONE);
        dueFault("256", Checks.NONE);
        dueFault("257", 2);
        dueFault("260", 2);
        dueFault("300", 2);
        dueFault("1000", 3);
        dueFault("999", 2);
        dueFault("2560", 3);
        dueFault("99,100,255", Checks.NONE);
        dueFault("00", 1);
        dueFault("01", 1);
        dueFault("1,00", 3);
        dueFault("1,0,0", Checks.NONE);
        dueFault("10,20", Checks.NONE);
        dueFault(",", 0);
        dueFault("1,", 2);
        dueFault("1,,2", 2);
        dueFault(",1", 0);
        dueFault("1,2,", 4);
        dueFault("-1", 0);
        dueFault("1-", 1);
        dueFault("1,x", 2);
        dueFault("1,2;3,,", 3);
        dueFault("12,257,x", 5);
    }

    private static void dueFault(String text, int want) {
        Counted x = new Counted();
        Checks.type(x, text);
        Checks.unchanged(x, "fault of '" + text + "'", want, () -> x.fault());
        Checks.due("read of '" + text + "'", Math.min(x.read(0), 0), want == Checks.NONE ? 0 : Checks.BAD_TEXT);
    }

    private static void promise23FaultAtEachCode() {
        for (int code = 33; code <= 126; code++) {
            boolean digit = code >= '0' && code <= '9';
            dueFault("" + (char) code, digit ? Checks.NONE : 0);
            dueFault("1" + (char) code, digit ? Checks.NONE : code == ',' ? 2 : 1);
            dueFault("25" + (char) code, digit && code <= '6' ? Checks.NONE : code == ',' ? 3 : 2);
        }
        for (int number = 0; number < 400; number++) {
            dueFault("" + number, number < 257 ? Checks.NONE : 2);
        }
    }
}
