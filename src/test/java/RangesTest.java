import java.lang.reflect.InvocationTargetException;
import java.lang.reflect.Method;
import java.util.HashMap;
import java.util.Map;

/**
 * Promises 2 to 37: every number that is told to a call, from the least to the greatest that the document names. Each
 * of these is taken, the next one below and above is refused as told, and what is refused changes nothing.
 */
public final class RangesTest {
    private static final Check check = new Check();
    private static final Map<String, Method> calls = new HashMap<>();
    private static final int BAD = CarriedGate.BAD, INDEX = CarriedGate.INDEX, SIZE = CarriedGate.SIZE;
    /** The place of the number that a row is about. */
    private static final long X = Long.MIN_VALUE + 7;

    public static void main(String[] args) throws IllegalAccessException, InvocationTargetException {
        for (Method method : CarriedGate.class.getMethods()) calls.put(method.getName(), method);
        people();
        deeds();
        foretold();
        sheets();
        check.end("RangesTest");
    }

    /** Two people, the first one bears the gate; sheet 0 has four ints, sheet 1 three; the others hold nothing. */
    private static CarriedGate anObject() {
        CarriedGate gate = check.told("14n/9;g14.5*,s3e0", 2);
        check.put(gate, 0, 2, 5, 5, 5, 5);
        check.put(gate, 1, 2, 6, 6, 6);
        gate.seed(77);
        gate.turn(1);
        return gate;
    }

    private static int call(CarriedGate gate, String name, long[] numbers, long x) throws IllegalAccessException, InvocationTargetException {
        Method method = calls.get(name);
        Class<?>[] types = method.getParameterTypes();
        Object[] all = new Object[numbers.length];
        for (int i = 0; i < all.length; i++) {
            long number = numbers[i] == X ? x : numbers[i];
            if (types[i] == long.class) all[i] = number;
            else all[i] = (int) number;
        }
        return (Integer) method.invoke(gate, all);
    }

    private static void range(String name, int low, int high, long... numbers) throws IllegalAccessException, InvocationTargetException {
        range(name, low, high, BAD, BAD, numbers);
    }

    private static void range(String name, int low, int high, int below, int above, long[] numbers)
            throws IllegalAccessException, InvocationTargetException {
        for (int x = low; x <= Math.min(high, low + 130); x++) taken(name, numbers, x, below, above);
        taken(name, numbers, high, below, above);
        for (long x : new long[] {low - 1L, low - 2L, Integer.MIN_VALUE}) refused(name, numbers, x, below);
        for (long x : new long[] {high + 1L, high + 2L, Integer.MAX_VALUE}) if (x > high) refused(name, numbers, x, above);
    }

    private static void taken(String name, long[] numbers, int x, int below, int above) throws IllegalAccessException, InvocationTargetException {
        int answer = call(anObject(), name, numbers, x);
        check.isSo(name + " takes " + x + " among " + numbers.length + ", answered " + answer, answer != below && answer != above && answer != BAD);
    }

    private static void refused(String name, long[] numbers, long x, int want) throws IllegalAccessException, InvocationTargetException {
        if (x < Integer.MIN_VALUE || x > Integer.MAX_VALUE) return;
        CarriedGate gate = anObject();
        int[] before = Check.state(gate);
        check.due(name + " with " + x + " among " + numbers.length, call(gate, name, numbers, x), want);
        check.isAsBefore(name + " with " + x, gate, before);
        sheetsAreAsBefore(name + " with " + x, gate);
        check.due(name + " with " + x + ": the tape is empty as before", gate.type('9'), 1);
        check.due(name + " with " + x + ": there is no image as before", gate.restore(), CarriedGate.NONE);
        check.due(name + " with " + x + ": undone as before", gate.undo(), 0);
        check.due(name + " with " + x + ": undone, it looks north", gate.count(2), 0);
    }

    private static void sheetsAreAsBefore(String call, CarriedGate gate) {
        check.due(call + ": sheet 0 has four ints", gate.copy(0, 0, 0, 0, 4), 4);
        check.due(call + ": sheet 0 has no more", gate.item(0, 2, 4, 0), INDEX);
        check.due(call + ": sheet 1 has three ints", gate.copy(1, 0, 1, 0, 3), 3);
        check.due(call + ": sheet 1 has no more", gate.item(1, 2, 3, 0), INDEX);
        check.due(call + ": sheet 2 holds nothing", gate.drop(2), CarriedGate.NULL);
        check.due(call + ": sheet 3 holds nothing", gate.drop(3), CarriedGate.NULL);
    }

    private static void people() throws IllegalAccessException, InvocationTargetException {
        range("person", 0, 4, X, 0, 0);
        range("person", 0, 35, 0, X, 0);
        range("person", 0, 20, 0, 0, X);
        range("of", 0, 1, X, 0);
        range("of", 0, 7, 0, X);
        range("side", 0, 35, X);
        range("type", 32, 126, X);
        range("count", 0, 8, X);
    }

    private static void deeds() throws IllegalAccessException, InvocationTargetException {
        range("hours", 1, 40, X);
        range("carry", 0, 3, X);
        range("turn", 0, 3, X);
        range("hand", 0, 1, X);
        range("send", 0, 1, X, 0);
        range("send", 0, 4, 0, X);
        range("rain", 0, 63, X);
        range("drift", 1, 40, X);
        range("seed", 0, Integer.MAX_VALUE, X);
    }

    private static void foretold() throws IllegalAccessException, InvocationTargetException {
        range("ahead", 0, 40, X);
        range("then", 0, 1, X, 0, 0);
        range("then", 0, 40, 0, X, 0);
        range("then", 0, 2, 0, 0, X);
        range("wet", 0, 40, X);
        range("facing", 1, 40, X, 0);
        range("facing", 0, 1, 1, X);
        for (String name : new String[] {"room", "nearest"}) {
            range(name, 0, 3, X, 0);
            range(name, 0, 2, 0, X);
        }
        range("hinge", 1, 40, X);
        range("duel", 0, 5, X);
        range("stood", 0, 3, X, 0);
        range("stood", 0, 1, 0, X);
        range("field", 0, 35, X, 0, 0);
        range("field", 0, 3, 0, X, 0);
        range("field", 0, 2, 0, 0, X);
        range("dry", 0, 1, X, 0, 0, 0, 0);
        range("dry", 0, 99, 0, X, 0, 0, 0);
        range("dry", 0, 6, 0, 0, X, 0, 0);
        range("dry", 0, 10, 0, 0, 0, X, 0);
        range("dry", 0, 1, 0, 0, 0, 0, X);
    }

    private static void sheets() throws IllegalAccessException, InvocationTargetException {
        range("seen", 0, 1, X, 0, 2, 0, 1, 0);
        range("seen", 0, 3, 0, X, 2, 0, 1, 0);
        range("seen", 0, 3, 0, 0, X, 0, 1, 0);
        range("seen", 0, 3, INDEX, INDEX, new long[] {0, 0, 2, X, 1, 0});
        range("seen", 1, 8, 0, 0, 2, 0, X, 0);
        range("seen", 0, 2, 0, 0, 2, 0, 1, X);
        range("film", 1, 24, X, 0, 2, 0);
        range("film", 0, 3, 1, X, 2, 0);
        range("film", 0, 3, 1, 0, X, 0);
        range("film", 0, 3, INDEX, INDEX, new long[] {1, 0, 2, X});
        range("sheet", 0, 3, X, 2, 4);
        range("sheet", 0, 3, 0, X, 4);
        range("sheet", 0, 24, SIZE, BAD, new long[] {0, 2, X});
        range("drop", 0, 3, X);
        range("item", 0, 3, X, 2, 0, 5);
        range("item", 0, 3, 0, X, 0, 5);
        range("item", 0, 3, INDEX, INDEX, new long[] {0, 2, X, 5});
        range("copy", 0, 3, X, 0, 1, 0, 1);
        range("copy", 0, 3, 0, 0, X, 0, 1);
        range("copy", 0, 3, INDEX, INDEX, new long[] {0, X, 1, 0, 1});
        range("copy", 0, 2, INDEX, INDEX, new long[] {0, 0, 1, X, 1});
        range("copy", 0, 3, INDEX, INDEX, new long[] {0, 0, 1, 0, X});
    }
}
