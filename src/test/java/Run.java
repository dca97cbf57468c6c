import java.lang.reflect.InvocationTargetException;
import java.lang.reflect.Method;
import java.util.HashMap;
import java.util.Map;

/** A run of calls on a new object, each written as the document writes it; MIN and MAX are an int's ends. */
final class Run {
    static final int BAD = -1, FULL = -2, BUSY = -3, NONE = -4;
    static final int LOST = -11, TORN = -12, SIZE = -13, SPAN = -14, KIND = -15, STORE = -16;
    static final int LONG = -17, SHORT = -18, SUM = -19;

    private static final Map<String, Method> FACE = new HashMap<>();

    static {
        for (Method m : Player.class.getDeclaredMethods()) FACE.put(m.getName(), m);
    }

    private final Due due;
    private final Player x = new Player();

    Run(Due due) {
        this.due = due;
    }

    int left() {
        return x.left();
    }

    private static int number(String text) {
        return text.equals("MIN") ? Integer.MIN_VALUE : text.equals("MAX") ? Integer.MAX_VALUE : Integer.parseInt(text);
    }

    long ask(String call) {
        String inside = call.substring(call.indexOf('(') + 1, call.length() - 1);
        String[] words = inside.isEmpty() ? new String[0] : inside.split(", ");
        Object[] numbers = new Object[words.length];
        for (int i = 0; i < words.length; i++) numbers[i] = number(words[i]);
        try {
            return ((Number) FACE.get(call.substring(0, call.indexOf('('))).invoke(x, numbers)).longValue();
        } catch (InvocationTargetException e) {
            throw new IllegalStateException(call + " threw", e.getCause());
        } catch (IllegalAccessException e) {
            throw new IllegalStateException(call, e);
        }
    }

    /** Calls whose answers are not looked at here. */
    Run does(String... calls) {
        for (String call : calls) ask(call);
        return this;
    }

    Run is(String call, long want) {
        due.is(call, ask(call), want);
        return this;
    }

    Run are(long want, String... calls) {
        for (String call : calls) is(call, want);
        return this;
    }

    /** The answer and what status() tells then; a call ahead of it has status() tell something else before. */
    Run isWith(int status, String call, long want) {
        x.count(status == 0 ? -1 : 0);
        due.is(call, ask(call), want);
        due.is("status() behind " + call, x.status(), status);
        return this;
    }

    /** A row of answers: call has a * where 0, 1, 2, .. come. */
    Run row(String call, long... want) {
        for (int k = 0; k < want.length; k++) is(call.replace("*", "" + k), want[k]);
        return this;
    }

    Run event(int k, int sort, int gone, int what, int rest) {
        return row("event(" + k + ", *)", sort, gone, what, rest);
    }

    /** A STRIP behind those of ROLL 0 with these ELEMENTS. */
    Run strip(int kind, int ticks, int... elements) {
        int place = x.strip(0, kind, 0, elements.length, ticks);
        for (int k = 0; k < elements.length; k++) {
            if (elements[k] != 0) x.punch(0, place, k, elements[k]);
        }
        return this;
    }
}
