import java.lang.reflect.InvocationTargetException;
import java.lang.reflect.Method;
import java.util.HashMap;
import java.util.Map;

/**
 * One object and the calls made on it, told as they stand in the document: due("start(0, 4)", 9).
 * It counts them, for behind the 512th nothing is promised.
 */
final class Run {
    private static final int MOST_CALLS = 512;
    private static final Map<String, Method> FACE = new HashMap<>();

    static {
        for (Method m : SummitTime.class.getDeclaredMethods()) {
            FACE.put(m.getName(), m);
        }
    }

    private final SummitTime x = new SummitTime();
    private final StringBuilder trail = new StringBuilder();
    private int calls = 0;

    /** A new object. */
    static Run anew() {
        return new Run();
    }

    /** A new object to which this text has been told. */
    static Run told(String text) {
        return new Run().tell(text);
    }

    /** Makes the call: its answer. */
    long call(String call) {
        int open = call.indexOf('(');
        String name = call.substring(0, open);
        String row = call.substring(open + 1, call.length() - 1).trim();
        String[] parts = row.isEmpty() ? new String[0] : row.split(",");
        Object[] numbers = new Object[parts.length];
        for (int i = 0; i < parts.length; i++) {
            numbers[i] = Integer.parseInt(parts[i].trim());
        }
        return make(name, numbers);
    }

    private long make(String name, Object... numbers) {
        calls++;
        if (calls > MOST_CALLS) {
            throw new IllegalStateException("a test of more than " + MOST_CALLS + " calls");
        }
        try {
            return ((Number) FACE.get(name).invoke(x, numbers)).longValue();
        } catch (InvocationTargetException | IllegalAccessException e) {
            throw new IllegalStateException(name + " threw, behind " + trail, e);
        }
    }

    Run due(String call, long want) {
        long got = call(call);
        Check.due(got == want ? call : trail + call, got, want);
        trail.append(call).append("; ");
        return this;
    }

    /** Calls whose answers are looked at elsewhere. */
    Run then(String... made) {
        for (String call : made) {
            call(call);
            trail.append(call).append("; ");
        }
        return this;
    }

    /** Writes the letters of a text, as far as there is room. */
    Run put(String text) {
        for (int i = 0; i < text.length(); i++) {
            make("write", (int) text.charAt(i));
        }
        trail.append('\'').append(text).append("'; ");
        return this;
    }

    Run tell(String text) {
        put(text);
        Check.holds("can be told: " + trail, call("top()") > 0);
        return this;
    }

    /** How many calls may be made yet. */
    int left() {
        return MOST_CALLS - calls;
    }
}
