import java.lang.reflect.Constructor;
import java.lang.reflect.Field;
import java.lang.reflect.Method;
import java.lang.reflect.Modifier;
import java.util.TreeSet;

/** The public face: the constants, the constructor and the methods of the document, and nothing else. */
final class FaceTest {
    private static final String[] METHODS = {
        "int read(int)", "int set(int,int,int)", "int add(int,int,int,int)", "int product(int,int,int)",
        "int round(int,int,int,int)", "int power(int,int,int)", "int inverse(int,int,int)",
        "int divide(int,int,int,int)", "int divisor(int,int,int)", "int turn(int,int,int)", "int turnBack(int,int)",
        "int number(int,int)", "int of(int,int)", "int value(int,int)", "int turningPoint(int,int)", "int count(int)",
        "long fits(int,int)", "int sum(int,int,int)", "int found(int,int,int)", "int put(long)", "int wipe()",
        "int fault()", "int undo()", "int save(int)", "int restore(int)"};

    public static void main(String[] args) {
        constants();
        constructor();
        methods();
        fields();
        extremeArguments();
        callsAfterThe512th();
        Checks.end();
    }

    private static void constants() {
        Checks.due("NO_SUCH", TurnedRows.NO_SUCH, -1);
        Checks.due("BAD_VALUE", TurnedRows.BAD_VALUE, -2);
        Checks.due("BAD_TEXT", TurnedRows.BAD_TEXT, -3);
        Checks.due("TOO_MANY", TurnedRows.TOO_MANY, -4);
        Checks.due("NOT_POSSIBLE", TurnedRows.NOT_POSSIBLE, -5);
        Checks.due("NONE", TurnedRows.NONE, -6);
    }

    private static void constructor() {
        Checks.dueText("the class", Modifier.toString(TurnedRows.class.getModifiers()), "public final");
        Checks.dueText("what it extends", TurnedRows.class.getSuperclass().getName(), "java.lang.Object");
        Checks.due("what it implements", TurnedRows.class.getInterfaces().length, 0);
        Constructor<?>[] all = TurnedRows.class.getDeclaredConstructors();
        Checks.due("constructors", all.length, 1);
        Checks.dueText("the constructor", all[0].toString(), "public TurnedRows()");
    }

    private static void methods() {
        TreeSet<String> seen = new TreeSet<>();
        TreeSet<String> publicNames = new TreeSet<>();
        for (Method method : TurnedRows.class.getDeclaredMethods()) {
            if (!Modifier.isPrivate(method.getModifiers())) {
                seen.add(method.toString().replace("TurnedRows.", ""));
                publicNames.add(method.getName());
            }
        }
        TreeSet<String> due = new TreeSet<>();
        for (String method : METHODS) {
            due.add("public " + method);
        }
        Checks.dueText("the methods", seen.toString(), due.toString());
        for (Method method : TurnedRows.class.getDeclaredMethods()) {
            boolean hidden = Modifier.isPrivate(method.getModifiers());
            Checks.due(method + " bears the name of a public one",
                    hidden && publicNames.contains(method.getName()) ? 1 : 0, 0);
        }
    }

    private static void fields() {
        TreeSet<String> seen = new TreeSet<>();
        for (Field field : TurnedRows.class.getDeclaredFields()) {
            if (!Modifier.isPrivate(field.getModifiers())) {
                seen.add(field.toString().replace("public static final int TurnedRows.", ""));
            }
            if (Modifier.isStatic(field.getModifiers())) {
                Checks.due(field + " is final", Modifier.isFinal(field.getModifiers()) ? 1 : 0, 1);
            }
        }
        Checks.dueText("the fields", seen.toString(), "[BAD_TEXT, BAD_VALUE, NONE, NOT_POSSIBLE, NO_SUCH, TOO_MANY]");
    }

    /** No call may throw, whatever it is given. */
    private static void extremeArguments() {
        int[] extremes = {Integer.MIN_VALUE, Integer.MIN_VALUE + 1, -1, 0, 1, 64, 65, Integer.MAX_VALUE};
        for (int a : extremes) {
            for (int b : extremes) {
                Counted x = new Counted();
                for (int c : extremes) {
                    x.set(a, b, c);
                    x.add(a, b, c, b);
                    x.product(a, b, c);
                    x.round(0, b, a, c);
                    x.power(a, b, c);
                    x.inverse(a, b, c);
                    x.divide(a, b, c, 1);
                    x.divisor(a, b, c);
                    x.turn(a, b, c);
                    x.turnBack(a, b);
                    x.number(a, b);
                    x.of(a, b);
                    x.value(a, b);
                    x.turningPoint(a, b);
                    x.fits(a, b);
                    x.sum(a, b, c);
                    x.found(a, b, c);
                }
                x.put((long) a << 32 | b);
                x.read(a);
                x.count(b);
                x.undo();
                x.save(a);
                x.restore(b);
            }
        }
    }

    /** What they answer is free, but they may not throw either. */
    private static void callsAfterThe512th() {
        TurnedRows x = new TurnedRows();
        for (int call = 0; call < 1000; call++) {
            x.put('7');
            x.read(call % 7);
            x.set(call % 6, call % 70, call % 257);
            x.round(call % 6, call % 5, call % 64 + 1, call % 6);
            x.inverse(call % 6, 64, call % 4);
            x.divide(call % 6, call % 4, call % 5, call % 6);
            x.turn(call % 6, 64, call % 3);
            x.save(call % 2);
            x.restore(call % 3);
            x.undo();
            x.put(0x312C322C332C342CL);
        }
    }
}
