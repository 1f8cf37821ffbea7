import java.lang.reflect.InvocationTargetException;
import java.lang.reflect.Method;
import java.util.ArrayList;
import java.util.Arrays;
import java.util.Comparator;
import java.util.List;
import java.util.Random;

/** Random runs of 512 calls, answered by the program and by the model of the document. */
public final class RandomRunsTest {
    private static final int CALLS = 512;
    /** A text of up to three commands is appended by 27 calls at most. */
    private static final int CALLS_OF_TEXT = 28;
    private static final String[] WORDS = {"green", "offset", "press", "run", "change", "road"};
    private static final int[] NUMBERS = {5, 2, 2, 1, 1, 3};
    private static final int[] WILD = {-1, Integer.MIN_VALUE, Integer.MAX_VALUE, 7, 121, 100000, -2};
    /** Methods by weight: those that build are called more often, dear ones of the model less. */
    private static final String OFTEN = "green green green green conflict conflict make run run press press change trip";
    private static final String SELDOM = "bestOffset phase undo restore save cycle peace dark refusal errorPosition group junction";

    private static final List<String> NO_JUNCTION = List.of("cycle", "speed", "junction", "run", "account", "append",
            "character", "trip", "tripAgain", "band", "share");

    private final Random random;
    private final SignalRoad road = new SignalRoad();
    private final RoadModel model = new RoadModel();
    private final List<String> log = new ArrayList<>();
    private final int[] tally;
    private int junctions;
    private int cycle = 60;
    private int groups = 6;

    private RandomRunsTest(long seed, int[] tally) {
        this.random = new Random(seed);
        this.tally = tally;
    }

    public static void main(String[] args) {
        int runs = args.length > 0 ? Integer.parseInt(args[0]) : 300;
        long from = args.length > 1 ? Long.parseLong(args[1]) : 1;
        int[] tally = new int[2];
        for (long seed = from; seed < from + runs; seed++) {
            if (!new RandomRunsTest(seed, tally).isAsDue(seed)) {
                System.exit(1);
            }
        }
        System.out.println(runs + " random runs: " + tally[0] + " answers and " + tally[1] + " exceptions as due");
    }

    private boolean isAsDue(long seed) {
        List<Method> pool = pool();
        try {
            build();
            while (log.size() < CALLS) {
                Method method = pool.get(random.nextInt(pool.size()));
                if (method.getName().equals("text")) {
                    if (log.size() + CALLS_OF_TEXT > CALLS) {
                        continue;
                    }
                    writeText();
                }
                ask(method, arguments(method));
            }
        } catch (IllegalStateException e) {
            System.out.println("run of seed " + seed + ": " + e.getMessage());
            int last = log.size();
            System.out.println(String.join("\n", log.subList(Math.max(0, last - 60), last)));
            return false;
        }
        return true;
    }

    private static Method[] face() {
        Method[] all = Arrays.stream(SignalRoad.class.getDeclaredMethods())
                .filter(m -> java.lang.reflect.Modifier.isPublic(m.getModifiers())).toArray(Method[]::new);
        Arrays.sort(all, Comparator.comparing(Method::getName));
        return all;
    }

    private static Method named(String name) {
        for (Method method : face()) {
            if (method.getName().equals(name)) {
                return method;
            }
        }
        throw new IllegalArgumentException(name);
    }

    private List<Method> pool() {
        List<Method> pool = new ArrayList<>();
        List<String> seldom = List.of(SELDOM.split(" "));
        for (Method method : face()) {
            for (int k = 0; k < (seldom.contains(method.getName()) ? 1 : 4); k++) {
                pool.add(method);
            }
        }
        for (String name : OFTEN.split(" ")) {
            for (int k = 0; k < 3; k++) {
                pool.add(named(name));
            }
        }
        return pool;
    }

    /** Begins most runs with a road that has something on it. */
    private void build() {
        if (random.nextInt(3) > 0) {
            cycle = random.nextInt(4) == 0 ? 30 + random.nextInt(6) : 30 + random.nextInt(91);
            ask(named("cycle"), cycle);
        }
        junctions = 1 + random.nextInt(4);
        int position = random.nextInt(200);
        for (int j = 0; j < junctions; j++) {
            ask(named("junction"), position);
            position += 1 + random.nextInt(900);
            int groups = 1 + random.nextInt(6);
            for (int g = 0; g < groups; g++) {
                int least = random.nextInt(9) == 0 ? 4 + random.nextInt(27) : 4 + random.nextInt(5);
                ask(named("group"), j, random.nextInt(3), least, random.nextBoolean());
            }
            buildConflicts(j, groups);
            buildPlans(j, groups);
            ask(named("road"), j, random.nextInt(groups), random.nextInt(groups));
            ask(named("offset"), j, random.nextInt(cycle));
        }
    }

    private void buildConflicts(int junction, int groups) {
        int share = random.nextInt(4);
        for (int one = 0; one < groups; one++) {
            for (int other = 0; other < one; other++) {
                if (random.nextInt(4) < share) {
                    ask(named("conflict"), junction, one, other, clearance(), clearance());
                }
            }
        }
    }

    private int clearance() {
        return random.nextInt(random.nextInt(4) == 0 ? 21 : 4);
    }

    private void buildPlans(int junction, int groups) {
        if (random.nextInt(5) == 0) {
            ask(named("green"), junction, 0, random.nextInt(groups), random.nextInt(cycle), cycle - 5);
            ask(named("green"), junction, 1, random.nextInt(groups), random.nextInt(cycle), cycle - 5);
            return;
        }
        ask(named("make"), junction, 0);
        ask(named("make"), junction, 1);
    }

    private Object[] arguments(Method method) {
        int count = method.getParameterCount();
        Object[] values = new Object[count];
        groups = 6;
        for (int k = 0; k < count; k++) {
            values[k] = method.getParameterTypes()[k] == boolean.class ? random.nextBoolean()
                    : random.nextInt(60) == 0 ? (Object) WILD[random.nextInt(WILD.length)]
                    : (Object) number(method.getName(), k);
            if (k == 0 && !NO_JUNCTION.contains(method.getName())) {
                lookAt(values[0]);
            }
        }
        return values;
    }

    /** Lets the groups of the further arguments be mostly those of the junction. */
    private void lookAt(Object junction) {
        int number = (Integer) junction;
        boolean isThere = number >= 0 && number < model.account(0);
        int count = isThere ? model.told(number, 2) : 0;
        groups = count > 0 && random.nextInt(20) > 0 ? count : 6;
    }

    private int number(String name, int index) {
        switch (name) {
            case "cycle": return 28 + random.nextInt(95);
            case "speed": return 4 + random.nextInt(23);
            case "junction": return random.nextInt(10500);
            case "run": return random.nextInt(3) > 0 ? 1 + random.nextInt(20) : random.nextInt(303);
            case "account": return random.nextInt(15);
            case "append": return random.nextInt(3) == 0 ? 0 : random.nextInt() & 0x7f007f7f;
            case "character": return random.nextInt(66);
            case "trip": return index == 0 ? random.nextInt(2) : index == 1 ? random.nextInt(100001) : random.nextInt(3);
            case "tripAgain": return index == 0 ? random.nextInt(2) : random.nextInt(100001);
            case "band":
            case "share": return random.nextInt(2);
            default: return index == 0 ? random.nextInt(junctions + (random.nextInt(9) == 0 ? 1 : 0)) : inner(name, index);
        }
    }

    private int inner(String name, int index) {
        boolean isPlanNext = "green hinders dark make greenOf shows picture".contains(name);
        if (index == 1 && isPlanNext) {
            return random.nextInt(2);
        }
        switch (name) {
            case "offset": return random.nextInt(cycle + 1);
            case "told": return random.nextInt(8);
            case "bestOffset": return random.nextInt(2);
            case "group": return index == 1 ? random.nextInt(3) : 4 + random.nextInt(random.nextInt(4) == 0 ? 27 : 6);
            case "groupTold": return index == 1 ? random.nextInt(groups) : random.nextInt(8);
            case "conflict": return index < 3 ? random.nextInt(groups) : clearance();
            case "green":
            case "hinders": return index == 2 ? random.nextInt(groups) : index == 3 ? random.nextInt(cycle)
                    : random.nextInt(4) == 0 ? 1 + random.nextInt(cycle) : 3 + random.nextInt(15);
            case "shows": return random.nextInt(cycle);
            case "picture": return random.nextInt(9) - 1;
            case "mount": return index == 1 ? random.nextInt(groups) : index == 2 ? random.nextInt(3) : random.nextInt(4);
            default: return random.nextInt(groups);
        }
    }

    private void writeText() {
        StringBuilder text = new StringBuilder();
        for (int k = random.nextInt(3); k >= 0; k--) {
            int word = random.nextInt(WORDS.length);
            text.append(WORDS[word]).append(':');
            Object[] values = arguments(named(WORDS[word]));
            for (int n = 0; n < NUMBERS[word]; n++) {
                text.append(n > 0 ? "," : "").append(Math.abs((long) (Integer) values[n]) % 20000);
            }
            text.append(';');
        }
        if (random.nextInt(2) == 0) {
            spoil(text);
        }
        for (int k = 0; k < text.length(); k += 4) {
            int packed = 0;
            for (int n = k; n < k + 4 && n < text.length(); n++) {
                packed = packed << 8 | text.charAt(n);
            }
            ask(named("append"), packed);
        }
    }

    private void spoil(StringBuilder text) {
        int place = random.nextInt(text.length());
        char sign = ":;,0123456789abgreenrunroadZ~".charAt(random.nextInt(29));
        switch (random.nextInt(4)) {
            case 0: text.setCharAt(place, sign); break;
            case 1: text.insert(place, sign); break;
            case 2: text.deleteCharAt(place); break;
            default: text.setLength(place); break;
        }
    }

    private void ask(Method method, Object... values) {
        String due = answer(model, method, values);
        String got = answer(road, method, values);
        tally[due.startsWith("class") ? 1 : 0]++;
        String call = method.getName() + Arrays.toString(values) + " " + got;
        log.add(call);
        if (method.getName().equals("cycle")) {
            cycle = model.account(11);
        }
        junctions = Math.max(1, model.account(0));
        if (!due.equals(got)) {
            throw new IllegalStateException(call + ", due is " + due);
        }
    }

    private static String answer(Object object, Method method, Object[] values) {
        try {
            Method own = object.getClass().getMethod(method.getName(), method.getParameterTypes());
            return String.valueOf(own.invoke(object, values));
        } catch (InvocationTargetException e) {
            return e.getCause().getClass().toString();
        } catch (ReflectiveOperationException e) {
            throw new AssertionError(e);
        }
    }
}
