import java.lang.reflect.InvocationTargetException;
import java.lang.reflect.Method;
import java.util.ArrayList;
import java.util.HashMap;
import java.util.List;
import java.util.Map;
import java.util.Set;

/**
 * Runs of calls, written a call a line: "offset 0 59 = 7" is due to answer 7, "offset 0 60 ! IllegalArgument" to
 * throw, and a line with neither is only not to throw. Behind " # " stands a remark. "3 x run 300" is called three
 * times, "write run:1;" appends a text, and "says 0" is the report on junction 0 as a text. After each call that
 * throws, and after each one that only tells something, all that can be seen must be as if it had not been called;
 * the same after each change that is undone, or ahead of which all was saved and is restored.
 */
final class Rows {
    private static final Set<String> QUESTIONS = Set.of("told", "groupTold", "clearance", "hinders", "phase", "greenOf",
            "shows", "picture", "refusal", "trip", "tripAgain", "band", "bestOffset", "share", "soonest", "account",
            "litShare", "meanWait", "errorPosition", "character");
    private static final Set<String> CHANGES = Set.of("cycle", "speed", "junction", "group", "conflict", "peace", "green",
            "dark", "make", "offset", "road", "press", "run", "change", "mount", "text");
    private static final int MOST_CHANGES = 8;

    private Rows() {
    }

    /** A line of a run; the mark is '=', '!' or a blank. */
    private record Row(String text, int times, String call, String[] values, char mark, String due) {
        static Row of(String line) {
            String text = line.contains(" # ") ? line.substring(0, line.indexOf(" # ")).strip() : line.strip();
            char mark = text.contains(" = ") ? '=' : text.contains(" ! ") ? '!' : ' ';
            int place = mark == ' ' ? text.length() : text.indexOf(" " + mark + " ");
            String due = mark == ' ' ? "" : text.substring(place + 3).strip();
            String[] words = text.substring(0, place).strip().split(" +");
            boolean isRepeated = words.length > 2 && words[1].equals("x");
            int from = isRepeated ? 2 : 0;
            String[] values = java.util.Arrays.copyOfRange(words, from + 1, words.length);
            return new Row(text, isRepeated ? Integer.parseInt(words[0]) : 1, words[from], values, mark, due);
        }
    }

    /** The parts are joined, so that several runs can begin alike. */
    static void run(String name, String... parts) {
        List<Row> rows = new ArrayList<>();
        for (String line : String.join("\n", parts).split("\n")) {
            if (!line.isBlank()) {
                rows.add(Row.of(line));
            }
        }
        Asked asked = new Asked();
        for (int k = 0; k < rows.size(); k++) {
            Row row = rows.get(k);
            String title = name + ", row " + (k + 1) + ": " + row.text();
            String got = asked.answerTo(row);
            if (row.mark() == '!') {
                Check.due(title, got, row.due() + "Exception");
            } else {
                Check.due(title, got, row.mark() == '=' ? valueOf(row) : got.endsWith("Exception") ? "an answer" : got);
            }
            if (row.mark() == '!' || QUESTIONS.contains(row.call())) {
                staysAsItWas(title, rows, k);
            } else if (CHANGES.contains(row.call()) && row.times() <= MOST_CHANGES) {
                goesBack(title, rows, k);
                isRestored(title, rows, k);
            }
        }
    }

    private static void staysAsItWas(String title, List<Row> rows, int last) {
        Asked with = new Asked();
        Asked without = new Asked();
        with.answerTo(rows.subList(0, last + 1));
        without.answerTo(rows.subList(0, last));
        dueAlike(title + ", and the state", rows.get(last), with, without);
    }

    /** A change by which nothing changes takes the oldest one away from those that can be undone, too. */
    private static void goesBack(String title, List<Row> rows, int last) {
        int times = rows.get(last).times();
        Row undo = Row.of(times + " x undo");
        Asked with = new Asked();
        Asked without = new Asked();
        with.answerTo(rows.subList(0, last + 1));
        with.answerTo(List.of(undo));
        without.answerTo(rows.subList(0, last));
        without.answerTo(List.of(Row.of(times + " x speed " + without.answer("account", "12")), undo));
        dueAlike(title + ", and undone", rows.get(last), with, without);
    }

    private static void isRestored(String title, List<Row> rows, int last) {
        Row save = Row.of("save");
        Row restore = Row.of("restore");
        Asked with = new Asked();
        Asked without = new Asked();
        with.answerTo(rows.subList(0, last));
        with.answerTo(List.of(save, rows.get(last), restore));
        without.answerTo(rows.subList(0, last));
        without.answerTo(List.of(save, restore));
        dueAlike(title + ", and restored", rows.get(last), with, without);
    }

    private static void dueAlike(String title, Row row, Asked with, Asked without) {
        boolean isText = row.call().equals("text");
        boolean isReasonKept = isText || row.due().equals("UnsupportedOperation");
        String[] got = with.allSeen(isReasonKept, isText).split("\n");
        String[] due = without.allSeen(isReasonKept, isText).split("\n");
        int line = 0;
        while (line + 1 < Math.min(got.length, due.length) && got[line].equals(due[line])) {
            line++;
        }
        Check.due(title, got[line], due[line]);
    }

    private static String valueOf(Row row) {
        if (!row.due().contains("/")) {
            return row.due();
        }
        String[] parts = row.due().split("/");
        int upper = Integer.parseInt(parts[0]);
        int lower = Integer.parseInt(parts[1]);
        return row.call().equals("meanWait") ? String.valueOf(Double.doubleToLongBits((double) upper / (double) lower))
                : String.valueOf(Float.floatToIntBits((float) upper / (float) lower));
    }

    /** Nothing is promised of an object after its 512th call, so that no row may go on then. */
    private static final class CallsAreOver extends RuntimeException {
        private static final long serialVersionUID = 1;
    }

    /** An object that is asked. */
    private static final class Asked {
        private static final int MOST_CALLS = 512;
        private static final Map<String, Method> METHODS = new HashMap<>();

        static {
            for (Method method : SignalRoad.class.getMethods()) {
                METHODS.put(method.getName(), method);
            }
        }

        private final SignalRoad road = new SignalRoad();
        private int calls;

        void answerTo(List<Row> rows) {
            for (Row row : rows) {
                answerTo(row);
            }
        }

        String answerTo(Row row) {
            String answer = "";
            for (int k = 0; k < row.times(); k++) {
                answer = answer(row.call(), row.values());
            }
            return answer;
        }

        private String answer(String call, String... values) {
            switch (call) {
                case "write":
                    count((values[0].length() + 3) / 4);
                    Check.append(road, values[0]);
                    return String.valueOf(values[0].length());
                case "says":
                    String report = Check.report(road, Integer.parseInt(values[0]));
                    count(1 + report.length());
                    return report;
                default:
                    count(1);
                    return textOf(asked(call, values));
            }
        }

        private void count(int more) {
            calls += more;
            if (calls > MOST_CALLS) {
                throw new CallsAreOver();
            }
        }

        private Object asked(String call, String... values) {
            Method method = METHODS.get(call);
            if (method == null || method.getParameterCount() != values.length) {
                throw new IllegalArgumentException("there is no call " + call + " with " + values.length + " numbers");
            }
            try {
                return method.invoke(road, arguments(method, values));
            } catch (InvocationTargetException e) {
                return e.getCause();
            } catch (IllegalAccessException e) {
                throw new AssertionError(e);
            }
        }

        private static Object[] arguments(Method method, String[] values) {
            Object[] arguments = new Object[values.length];
            Class<?>[] types = method.getParameterTypes();
            for (int k = 0; k < values.length; k++) {
                boolean isTruth = types[k] == boolean.class;
                arguments[k] = isTruth ? (Object) Boolean.valueOf(values[k]) : (Object) number(values[k]);
            }
            return arguments;
        }

        private static Integer number(String value) {
            switch (value) {
                case "least": return Integer.MIN_VALUE;
                case "most": return Integer.MAX_VALUE;
                default: return (int) (long) Long.decode(value);
            }
        }

        private static String textOf(Object answer) {
            if (answer instanceof Float) {
                return String.valueOf(Float.floatToIntBits((Float) answer));
            }
            if (answer instanceof Double) {
                return String.valueOf(Double.doubleToLongBits((Double) answer));
            }
            return answer instanceof Exception ? answer.getClass().getSimpleName() : String.valueOf(answer);
        }

        // ---- what can be seen

        /** Looks as far as the calls that an object is used for go. */
        String allSeen(boolean isReasonKept, boolean isText) {
            StringBuilder text = new StringBuilder();
            try {
                seeAll(text, isReasonKept, isText);
            } catch (CallsAreOver e) {
                return text.toString();
            }
            return text.toString();
        }

        /** Ends with what is behind the state: the changes that can be undone, and what was saved. */
        private void seeAll(StringBuilder text, boolean isReasonKept, boolean isText) {
            see(text, "refusal", isReasonKept ? 0 : 1);
            see(text, "errorPosition", isText ? 0 : 1);
            seeAccounts(text, isText ? 13 : 14);
            seeReport(text);
            seeJunctions(text);
            see(text, "meanWait", 1);
            for (int direction = 0; direction < 2; direction++) {
                see(text, "band", 1, direction);
                for (int what = 0; what < 3; what++) {
                    see(text, "trip", 1, direction, 7, what);
                }
            }
            while (!see(text, "undo", 1).endsWith("Exception")) {
                seeAccounts(text, 13);
            }
            if (!see(text, "restore", 1).endsWith("Exception")) {
                seeAccounts(text, 13);
            }
        }

        /** Asks once or not at all; returns the answer. */
        private String see(StringBuilder text, String call, int times, int... values) {
            if (times == 0) {
                return "";
            }
            String[] words = new String[values.length];
            for (int k = 0; k < values.length; k++) {
                words[k] = String.valueOf(values[k]);
            }
            String answer = answer(call, words);
            text.append(call).append(String.join(",", words)).append(' ').append(answer).append('\n');
            return answer;
        }

        private void seeAccounts(StringBuilder text, int last) {
            for (int what = 0; what <= last; what++) {
                see(text, "account", 1, what);
            }
        }

        private void seeReport(StringBuilder text) {
            int index = 0;
            while (!see(text, "character", 1, index).endsWith("Exception")) {
                index++;
            }
        }

        private void seeJunctions(StringBuilder text) {
            int junctions = Integer.parseInt(answer("account", "0"));
            for (int j = 0; j < junctions; j++) {
                for (int what = 0; what < 8; what++) {
                    see(text, "told", 1, j, what);
                }
                see(text, "soonest", 1, j);
                see(text, "picture", 1, j, 0, -1);
                see(text, "picture", 1, j, 1, -1);
                seeGroups(text, j, Integer.parseInt(answer("told", String.valueOf(j), "2")));
            }
        }

        private void seeGroups(StringBuilder text, int junction, int groups) {
            for (int g = 0; g < groups; g++) {
                for (int what = 0; what < 8; what++) {
                    see(text, "groupTold", 1, junction, g, what);
                }
                for (int other = 0; other < groups; other++) {
                    see(text, "clearance", other == g ? 0 : 1, junction, g, other);
                }
                for (int plan = 0; plan < 2; plan++) {
                    String[] green = {String.valueOf(junction), String.valueOf(plan), String.valueOf(g), "true"};
                    String length = answer("greenOf", green);
                    green[3] = "false";
                    String first = answer("greenOf", green);
                    text.append("green ").append(length).append(' ').append(first).append('\n');
                }
            }
            if (groups > 0) {
                see(text, "road", 1, junction, 0, 0);
                see(text, "undo", 1);
            }
        }
    }
}
