/** Long runs of mixed calls, each answer compared to the one of the Model. The runs are the same each time. */
final class RandomRunsTest {
    private static final int RUNS = 3000;
    /** With the reading of all rows at the end (6 lengths, 384 numbers, 4 more) a run stays below 512 calls. */
    private static final int CALLS = 110;
    private static final int[] SIZES = {1, 2, 4, 8, 16, 32, 64};

    private long seed;
    /** Few different numbers make texts in which patterns fit. */
    private int numbers;
    private final Counted x = new Counted();
    private final Model y = new Model();

    private RandomRunsTest(int run) {
        seed = run;
        below(2);
        numbers = new int[] {2, 3, 257, 257}[run % 4];
    }

    public static void main(String[] args) {
        for (int run = 0; run < RUNS; run++) {
            RandomRunsTest test = new RandomRunsTest(run);
            for (int call = 0; call < CALLS; call++) {
                test.one("run " + run + ", call " + call);
            }
            test.end("run " + run + ", at the end");
        }
        Checks.end();
    }

    private int below(int bound) {
        seed = seed * 6364136223846793005L + 1442695040888963407L;
        return (int) ((seed >>> 33) % bound);
    }

    private int register() {
        int register = below(60) == 0 ? below(4) * 5 - 5 : below(6);
        return register == 0 && below(4) == 0 ? 1 : register;
    }

    private int number() {
        return below(40) == 0 ? below(262) - 2 : below(3) == 0 ? below(257) : below(numbers);
    }

    private int size() {
        return below(12) == 0 ? below(70) - 2 : SIZES[below(7)];
    }

    private int length(int register) {
        return Math.max(0, y.of(register, 0));
    }

    private void end(String where) {
        for (int register = 0; register < 6; register++) {
            Checks.due(where + ", of(" + register + ", 0)", x.of(register, 0), y.of(register, 0));
            for (int place = 0; place < y.of(register, 0); place++) {
                Checks.due(where + ", number(" + register + ", " + place + ")",
                        x.number(register, place), y.number(register, place));
            }
        }
        for (int what = 0; what < 3; what++) {
            Checks.due(where + ", count(" + what + ")", x.count(what), y.count(what));
        }
        Checks.due(where + ", fault()", x.fault(), y.fault());
    }

    private void one(String where) {
        int kind = below(40);
        if (kind < 12) {
            build(where, kind);
        } else if (kind < 24) {
            calculate(where, kind);
        } else if (kind < 34) {
            ask(where, kind);
        } else {
            keep(where, kind);
        }
    }

    private void build(String where, int kind) {
        int a = register();
        if (kind < 4) {
            String text = text();
            if (!text.isEmpty()) {
                long packed = Checks.pack(text);
                Checks.due(where + ", put of " + text, x.put(packed), y.put(packed));
            }
        } else if (kind < 6) {
            Checks.due(where + ", fault()", x.fault(), y.fault());
            Checks.due(where + ", read(" + a + ")", x.read(a), y.read(a));
        } else if (kind < 7) {
            Checks.due(where + ", wipe()", x.wipe(), y.wipe());
        } else {
            int place = below(3) == 0 ? below(70) - 2 : length(a);
            int number = number();
            Checks.due(where + ", set(" + a + ", " + place + ", " + number + ")",
                    x.set(a, place, number), y.set(a, place, number));
        }
    }

    private String text() {
        if (below(30) == 0) {
            return "" + (char) (below(255) + 1) + (char) (below(94) + 33);
        }
        StringBuilder text = new StringBuilder();
        for (int i = below(3); i >= 0; i--) {
            text.append(below(3) == 0 ? below(300) : below(numbers)).append(below(15) == 0 ? "" : ",");
        }
        int end = Math.min(8, text.length() - (below(2) == 0 && text.length() > 1 ? 1 : 0));
        return text.substring(0, end);
    }

    private void calculate(String where, int kind) {
        int a = register();
        int b = register();
        int c = register();
        int d = register();
        String call = where + ", of " + a + ", " + b + ", " + c + ", " + d + ": ";
        int n;
        switch (kind) {
            case 12, 13 -> Checks.due(call + "product", x.product(a, b, c), y.product(a, b, c));
            case 14 -> {
                n = number();
                Checks.due(call + "add of " + n, x.add(a, b, n, c), y.add(a, b, n, c));
            }
            case 15 -> {
                n = below(68) - 2;
                Checks.due(call + "round by " + n, x.round(a, b, n, c), y.round(a, b, n, c));
            }
            case 16 -> {
                n = below(12) - 1;
                Checks.due(call + "power by " + n, x.power(a, n, c), y.power(a, n, c));
            }
            case 17 -> {
                n = below(68) - 2;
                Checks.due(call + "inverse by " + n, x.inverse(a, n, c), y.inverse(a, n, c));
            }
            case 18, 19 -> Checks.due(call + "divide", x.divide(a, b, c, d), y.divide(a, b, c, d));
            case 20 -> Checks.due(call + "divisor", x.divisor(a, b, c), y.divisor(a, b, c));
            case 21, 22 -> {
                n = size();
                Checks.due(call + "turn by " + n, x.turn(a, n, c), y.turn(a, n, c));
            }
            default -> Checks.due(call + "turnBack", x.turnBack(a, c), y.turnBack(a, c));
        }
    }

    private void ask(String where, int kind) {
        int a = register();
        int b = register();
        int n;
        String call = where + ", of " + a + ", " + b + ": ";
        switch (kind) {
            case 24 -> {
                n = below(70) - 2;
                Checks.due(call + "number " + n, x.number(a, n), y.number(a, n));
            }
            case 25, 26 -> {
                n = below(8) - 1;
                Checks.due(call + "of " + n, x.of(a, n), y.of(a, n));
            }
            case 27 -> {
                n = number();
                Checks.due(call + "value " + n, x.value(a, n), y.value(a, n));
            }
            case 28 -> {
                int size = size();
                n = below(1010) - 4;
                Checks.due(call + "turningPoint " + size + ", " + n, x.turningPoint(size, n), y.turningPoint(size, n));
            }
            case 29 -> {
                n = below(5) - 1;
                Checks.due(call + "count " + n, x.count(n), y.count(n));
            }
            case 30 -> Checks.due(call + "fits", x.fits(a, b), y.fits(a, b));
            case 31 -> {
                n = below(Math.max(1, length(a) - length(b)) + 3) - 1;
                Checks.due(call + "sum " + n, x.sum(a, b, n), y.sum(a, b, n));
            }
            default -> {
                n = below(6) - 1;
                Checks.due(call + "found " + n, x.found(a, b, n), y.found(a, b, n));
            }
        }
    }

    private void keep(String where, int kind) {
        int slot = below(15) == 0 ? below(5) - 1 : below(2);
        if (kind < 37) {
            Checks.due(where + ", undo()", x.undo(), y.undo());
        } else if (kind < 38) {
            Checks.due(where + ", save(" + slot + ")", x.save(slot), y.save(slot));
        } else if (kind < 39) {
            Checks.due(where + ", restore(" + slot + ")", x.restore(slot), y.restore(slot));
        } else {
            Checks.due(where + ", count(2)", x.count(2), y.count(2));
        }
    }
}
