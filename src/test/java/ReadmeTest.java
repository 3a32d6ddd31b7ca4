import java.io.IOException;
import java.lang.reflect.Method;
import java.lang.reflect.Modifier;
import java.nio.file.Files;
import java.nio.file.Path;
import java.util.ArrayList;
import java.util.List;
import java.util.Set;
import java.util.TreeSet;
import java.util.regex.Matcher;
import java.util.regex.Pattern;

/** README.md tells the truth: its example answers what stands beside it, and it names every call with its parameters. */
public final class ReadmeTest {
    private static final Check check = new Check();
    private static final Pattern TYPED = Pattern.compile("for \\(char letter : \"(.*)\"\\.toCharArray\\(\\)\\) gate\\.type\\(letter\\);");
    private static final Pattern CALL = Pattern.compile("gate\\.(\\w+)\\(([-0-9, ]*)\\);\\s*// (-?\\d+): .*");
    private static final Pattern NAMED = Pattern.compile("`(\\w+)\\(([\\w, ]*)\\)`");

    public static void main(String[] args) throws IOException, ReflectiveOperationException {
        String readme = Files.readString(Path.of("README.md"));
        example(readme);
        table(readme);
        check.end("ReadmeTest");
    }

    private static void example(String readme) throws ReflectiveOperationException {
        CarriedGate gate = new CarriedGate();
        int calls = 0;
        for (String line : exampleLines(readme)) {
            Matcher typed = TYPED.matcher(line);
            Matcher call = CALL.matcher(line);
            if (typed.matches()) {
                for (char letter : typed.group(1).toCharArray()) check.isSo(line, gate.type(letter) > 0);
            } else if (call.matches()) {
                check.due("README: " + line, answer(gate, call.group(1), call.group(2)), Long.parseLong(call.group(3)));
                calls++;
            } else {
                check.isSo("README: a line of the example is known: " + line, line.equals("CarriedGate gate = new CarriedGate();"));
            }
        }
        check.isSo("README has an example", calls > 5);
    }

    private static List<String> exampleLines(String readme) {
        List<String> lines = new ArrayList<>();
        boolean inside = false;
        for (String line : readme.lines().toList()) {
            if (inside && line.equals("```")) return lines;
            if (inside) lines.add(line);
            if (line.equals("```java")) inside = true;
        }
        return lines;
    }

    private static int answer(CarriedGate gate, String name, String numbers) throws ReflectiveOperationException {
        String[] parts = numbers.isBlank() ? new String[0] : numbers.split(",");
        for (Method method : CarriedGate.class.getDeclaredMethods()) {
            if (!Modifier.isPublic(method.getModifiers()) || !method.getName().equals(name)) continue;
            Class<?>[] types = method.getParameterTypes();
            check.due("README: parameters of " + name, parts.length, types.length);
            Object[] values = new Object[types.length];
            for (int i = 0; i < values.length; i++) {
                long value = i < parts.length ? Long.parseLong(parts[i].trim()) : 0;
                if (types[i] == long.class) values[i] = value;
                else values[i] = (int) value;
            }
            return (Integer) method.invoke(gate, values);
        }
        check.isSo("README: there is a call " + name, false);
        return 0;
    }

    private static void table(String readme) {
        Set<String> told = new TreeSet<>();
        Matcher named = NAMED.matcher(readme);
        while (named.find()) told.add(named.group(1) + " " + many(named.group(2)));
        Set<String> face = new TreeSet<>();
        for (Method method : CarriedGate.class.getDeclaredMethods()) {
            if (Modifier.isPublic(method.getModifiers())) face.add(method.getName() + " " + method.getParameterCount());
        }
        for (String call : face) check.isSo("README names " + call, told.contains(call));
        for (String call : told) check.isSo("the face has " + call, face.contains(call));
    }

    private static int many(String parameters) {
        return parameters.isBlank() ? 0 : parameters.split(",").length;
    }
}
