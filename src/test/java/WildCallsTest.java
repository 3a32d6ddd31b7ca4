import java.lang.reflect.Constructor;
import java.lang.reflect.Field;
import java.lang.reflect.InvocationTargetException;
import java.lang.reflect.Method;
import java.lang.reflect.Modifier;
import java.util.ArrayList;
import java.util.Arrays;
import java.util.Comparator;
import java.util.List;
import java.util.Random;
import java.util.Set;
import java.util.TreeSet;

/**
 * The face is just the document's; and any numbers may be told to any call in any state: none throws, and what is
 * refused changes nothing. All promises.
 */
public final class WildCallsTest {
    private static final Check check = new Check();
    private static final int RUNS = 400, CALLS = 450;
    private static final int[] EDGES = {Integer.MIN_VALUE, Integer.MIN_VALUE + 1, -25, -2, -1, 0, 1, 2, 3, 4, 5, 6, 7, 8, 9, 10, 11, 14, 20, 21,
        23, 24, 25, 35, 36, 40, 41, 63, 64, 90, 99, 100, 126, 127, 255, 256, 9999, 65536, Integer.MAX_VALUE - 1, Integer.MAX_VALUE};
    private static final String FACE = "person iii, of ii, side i, type i, plain , count i, hours i, carry i, turn i, hand i, lay , send ii, "
        + "rain i, drift i, undo , seed i, ahead i, then iii, lies , wet i, facing ii, room ii, nearest ii, hinge i, duel i, stood ii, "
        + "field iii, dry iiiii, image , restore , seen iiiiii, film iiii, sheet iii, drop i, item iiil, copy iiiii";

    public static void main(String[] args) throws IllegalAccessException {
        face();
        List<Method> calls = new ArrayList<>();
        for (Method method : CarriedGate.class.getDeclaredMethods()) if (Modifier.isPublic(method.getModifiers())) calls.add(method);
        calls.sort(Comparator.comparing(Method::getName));
        for (int run = 0; run < RUNS; run++) wildRun(calls, new Random(7000L + run));
        check.end("WildCallsTest");
    }

    private static void face() {
        Set<String> want = new TreeSet<>(Arrays.asList(FACE.split(", ")));
        Set<String> got = new TreeSet<>();
        for (Method method : CarriedGate.class.getDeclaredMethods()) {
            if (Modifier.isPrivate(method.getModifiers())) continue;
            StringBuilder name = new StringBuilder(method.getName()).append(' ');
            for (Class<?> type : method.getParameterTypes()) name.append(type.getName().charAt(0));
            got.add(name.toString());
            check.due(name + " answers an int", method.getReturnType() == int.class ? 1 : 0, 1);
        }
        check.due("the calls " + got, got.equals(want) ? 1 : 0, 1);
        Set<String> constants = new TreeSet<>();
        for (Field field : CarriedGate.class.getDeclaredFields()) if (!Modifier.isPrivate(field.getModifiers())) constants.add(field.getName());
        check.due("the constants " + constants,
            constants.equals(new TreeSet<>(List.of("BAD", "NOT", "FULL", "NONE", "NULL", "CAST", "INDEX", "SIZE"))) ? 1 : 0, 1);
        Constructor<?>[] makers = CarriedGate.class.getDeclaredConstructors();
        check.due("one constructor", makers.length, 1);
        check.due("without parameters", makers[0].getParameterCount(), 0);
        check.due("a final class", Modifier.isFinal(CarriedGate.class.getModifiers()) ? 1 : 0, 1);
    }

    private static void wildRun(List<Method> calls, Random random) throws IllegalAccessException {
        CarriedGate gate = new CarriedGate();
        String text = "14e/45;g14.9*,s8s4,t16w7,h20.0,p15n3,g0e20,t33n2,p34.1";
        if (random.nextBoolean()) check.tell(gate, text, 8);
        for (int i = 0; i < CALLS; i++) {
            Method method = calls.get(random.nextInt(calls.size()));
            Class<?>[] types = method.getParameterTypes();
            Object[] numbers = new Object[types.length];
            for (int k = 0; k < numbers.length; k++) {
                if (types[k] == long.class) numbers[k] = random.nextLong();
                else numbers[k] = wildNumber(random);
            }
            int[] before = Check.state(gate);
            try {
                int answer = (int) (Integer) method.invoke(gate, numbers);
                String call = method.getName() + Arrays.toString(numbers);
                boolean told = method.getName().equals("hand") && answer == CarriedGate.NONE;
                if (answer < 0 && !told) check.due(call + " is refused and changes nothing", Arrays.equals(before, Check.state(gate)) ? 1 : 0, 1);
                check.due(call + " answers a refusal of the document", isKnown(method.getName(), answer) ? 1 : 0, 1);
            } catch (InvocationTargetException e) {
                check.due(method.getName() + Arrays.toString(numbers) + " threw " + e.getCause(), 1, 0);
            }
        }
    }

    private static int wildNumber(Random random) {
        int how = random.nextInt(12);
        if (how == 0) return random.nextInt();
        return how < 6 ? random.nextInt(6) : EDGES[random.nextInt(EDGES.length)];
    }

    private static boolean isKnown(String call, int answer) {
        if (answer >= -4 || answer <= -11 && answer >= -14) return true;
        return call.equals("plain") && answer <= -20 && answer >= -110;
    }
}
