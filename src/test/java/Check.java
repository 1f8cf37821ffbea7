import java.util.function.LongSupplier;

/** Counts what is not as due; a test ends with exit code 1 if there was something. */
final class Check {
    static final Class<? extends Exception> INDEX = IndexOutOfBoundsException.class;
    static final Class<? extends Exception> ARGUMENT = IllegalArgumentException.class;
    static final Class<? extends Exception> STATE = IllegalStateException.class;
    static final Class<? extends Exception> REFUSED = UnsupportedOperationException.class;
    static final Class<? extends Exception> NONE = java.util.NoSuchElementException.class;
    static final Class<? extends Exception> ARITHMETIC = ArithmeticException.class;

    private static int wrong;
    private static int count;

    private Check() {
    }

    static void due(String what, long got, long want) {
        count++;
        if (got != want) {
            wrong++;
            System.out.println(what + ": answered " + got + ", due is " + want);
        }
    }

    static void due(String what, String got, String want) {
        count++;
        if (!got.equals(want)) {
            wrong++;
            System.out.println(what + ": answered " + got + ", due is " + want);
        }
    }

    /** The class must be the very one of the document, none below it such as the machine throws. */
    static void dueThrow(String what, Class<? extends Exception> want, LongSupplier call) {
        count++;
        String got;
        try {
            got = "answered " + call.getAsLong();
        } catch (RuntimeException e) {
            if (e.getClass() == want) {
                return;
            }
            got = "threw " + e.getClass().getName();
        }
        wrong++;
        System.out.println(what + ": " + got + ", due is " + want.getName());
    }

    static void end() {
        System.out.println(count + " answers, " + wrong + " not as due");
        if (wrong > 0) {
            System.exit(1);
        }
    }

    /** Appends a text in pieces of up to four characters. */
    static void append(SignalRoad road, String text) {
        for (int k = 0; k < text.length(); k += 4) {
            int packed = 0;
            for (int n = k; n < k + 4 && n < text.length(); n++) {
                packed = packed << 8 | text.charAt(n);
            }
            road.append(packed);
        }
    }

    /** Carries a text out; returns the number of commands. */
    static int carryOut(SignalRoad road, String text) {
        append(road, text);
        return road.text();
    }

    static String report(SignalRoad road, int junction) {
        int length = road.report(junction);
        StringBuilder text = new StringBuilder();
        for (int k = 0; k < length; k++) {
            text.append(road.character(k));
        }
        return text.toString();
    }

    /** A road with one junction at 0 whose groups for all have these least greens; none is by request. */
    static SignalRoad roadWith(int... leasts) {
        SignalRoad road = new SignalRoad();
        road.junction(0);
        for (int least : leasts) {
            road.group(0, 2, least, false);
        }
        return road;
    }
}
