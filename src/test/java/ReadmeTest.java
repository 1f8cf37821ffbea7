import java.io.IOException;
import java.lang.reflect.InvocationTargetException;
import java.lang.reflect.Method;
import java.nio.file.Files;
import java.nio.file.Path;
import java.util.Set;
import java.util.TreeSet;
import java.util.regex.Matcher;
import java.util.regex.Pattern;

/**
 * The calls of README.md answer what stands behind them there: "road.offset(1, 25);  // 0: the offset before" is due
 * to answer 0. Behind report the report itself may stand, behind append what it appends.
 */
public final class ReadmeTest {
    private static final Path PAGE = Path.of("README.md");
    private static final String NEW_ROAD = "SignalRoad road = new SignalRoad();";
    private static final Pattern CALL = Pattern.compile("road\\.(\\w+)\\(([^)]*)\\); +// ([^:]+)(?:: (.+))?");

    private static SignalRoad road;
    private static final Set<String> CALLED = new TreeSet<>();

    public static void main(String[] args) throws IOException {
        boolean isCode = false;
        for (String line : Files.readAllLines(PAGE)) {
            if (line.startsWith("```")) {
                isCode = line.equals("```java");
            } else if (isCode) {
                carryOut(line);
            }
        }
        Set<String> face = new TreeSet<>();
        for (Method method : SignalRoad.class.getDeclaredMethods()) {
            if (java.lang.reflect.Modifier.isPublic(method.getModifiers())) {
                face.add(method.getName());
            }
        }
        Check.due("methods in README.md", CALLED.toString(), face.toString());
        Check.end();
    }

    private static void carryOut(String line) {
        if (line.equals(NEW_ROAD)) {
            road = new SignalRoad();
            return;
        }
        Matcher call = CALL.matcher(line);
        boolean isCall = road != null && call.matches();
        Check.due("a call with its answer: " + line, isCall ? 1 : 0, 1);
        if (!isCall) {
            return;
        }
        CALLED.add(call.group(1));
        Check.due(line, answer(call.group(1), call.group(2).split(", *")), call.group(3));
        if (call.group(1).equals("report")) {
            Check.due(line, Check.report(road, Integer.parseInt(call.group(2))), call.group(4));
        }
        if (call.group(1).equals("append")) {
            Check.due(line, signs(Integer.decode(call.group(2))), call.group(4));
        }
    }

    private static String signs(int packed) {
        StringBuilder text = new StringBuilder();
        for (int shift = 24; shift >= 0; shift -= 8) {
            int sign = packed >>> shift & 255;
            text.append(sign == 0 ? "" : String.valueOf((char) sign));
        }
        return text.toString();
    }

    private static String answer(String name, String[] values) {
        Method method = named(name);
        Class<?>[] types = method.getParameterTypes();
        Object[] arguments = new Object[types.length];
        for (int k = 0; k < types.length; k++) {
            boolean isTruth = types[k] == boolean.class;
            arguments[k] = isTruth ? (Object) Boolean.valueOf(values[k]) : (Object) Integer.decode(values[k]);
        }
        try {
            return String.valueOf(method.invoke(road, arguments));
        } catch (InvocationTargetException e) {
            return e.getCause().getClass().getSimpleName();
        } catch (IllegalAccessException e) {
            throw new AssertionError(e);
        }
    }

    private static Method named(String name) {
        for (Method method : SignalRoad.class.getMethods()) {
            if (method.getName().equals(name)) {
                return method;
            }
        }
        throw new IllegalArgumentException(name);
    }
}
