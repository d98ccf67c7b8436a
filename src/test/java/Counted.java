/**
 * The program, its calls counted: what it answers after its 512th call is free, so that a test must not ask for it.
 * All tests make their objects by this class.
 */
final class Counted {
    static final int MOST_CALLS = 512;

    private final TurnedRows rows = new TurnedRows();
    private int calls = 0;

    private TurnedRows called() {
        calls++;
        if (calls > MOST_CALLS) {
            throw new IllegalStateException("a test makes more than " + MOST_CALLS + " calls of one object");
        }
        return rows;
    }

    int callsLeft() {
        return MOST_CALLS - calls;
    }

    int read(int register) {
        return called().read(register);
    }

    int set(int register, int place, int number) {
        return called().set(register, place, number);
    }

    int add(int register, int other, int times, int to) {
        return called().add(register, other, times, to);
    }

    int product(int register, int other, int to) {
        return called().product(register, other, to);
    }

    int round(int register, int other, int size, int to) {
        return called().round(register, other, size, to);
    }

    int power(int register, int power, int to) {
        return called().power(register, power, to);
    }

    int inverse(int register, int many, int to) {
        return called().inverse(register, many, to);
    }

    int divide(int register, int other, int to, int toRest) {
        return called().divide(register, other, to, toRest);
    }

    int divisor(int register, int other, int to) {
        return called().divisor(register, other, to);
    }

    int turn(int register, int size, int to) {
        return called().turn(register, size, to);
    }

    int turnBack(int register, int to) {
        return called().turnBack(register, to);
    }

    int number(int register, int place) {
        return called().number(register, place);
    }

    int of(int register, int what) {
        return called().of(register, what);
    }

    int value(int register, int x) {
        return called().value(register, x);
    }

    int turningPoint(int size, int power) {
        return called().turningPoint(size, power);
    }

    int count(int what) {
        return called().count(what);
    }

    long fits(int text, int pattern) {
        return called().fits(text, pattern);
    }

    int sum(int text, int pattern, int place) {
        return called().sum(text, pattern, place);
    }

    int found(int text, int pattern, int what) {
        return called().found(text, pattern, what);
    }

    int put(long characters) {
        return called().put(characters);
    }

    int wipe() {
        return called().wipe();
    }

    int fault() {
        return called().fault();
    }

    int undo() {
        return called().undo();
    }

    int save(int slot) {
        return called().save(slot);
    }

    int restore(int slot) {
        return called().restore(slot);
    }
}
