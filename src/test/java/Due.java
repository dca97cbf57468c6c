import java.lang.reflect.InvocationTargetException;
import java.lang.reflect.Method;
import java.util.Arrays;
import java.util.Comparator;

/** Counts and tells the calls whose answer is not the one that is due. */
final class Due {
    private final String name;
    private String part = "";
    private int asked = 0;
    private int wrong = 0;

    Due(String name) {
        this.name = name;
    }

    /** Runs each test of a class that says which words of the document it is there for, and ends the program. */
    static void runAll(Class<?> tests) {
        Due due = new Due(tests.getSimpleName());
        Method[] methods = tests.getDeclaredMethods();
        Arrays.sort(methods, Comparator.comparing(Method::getName));
        for (Method test : methods) {
            Says words = test.getAnnotation(Says.class);
            if (words == null) continue;
            due.part(test.getName() + " (" + words.value() + ")");
            due.run(test);
        }
        due.end();
    }

    private void run(Method test) {
        try {
            test.invoke(null, this);
        } catch (InvocationTargetException e) {
            fail("threw " + e.getCause());
            e.getCause().printStackTrace(System.out);
        } catch (IllegalAccessException e) {
            fail("cannot be run: " + e);
        }
    }

    void part(String part) {
        this.part = part;
    }

    void is(String call, long got, long want) {
        asked++;
        if (got != want) fail(call + " answered " + got + ", due is " + want);
    }

    void fail(String why) {
        wrong++;
        System.out.println(name + ", " + part + ": " + why);
    }

    /** Ends the program, with 1 if an answer was wrong. */
    void end() {
        System.out.println(asked + " answers, " + wrong + " of them not as due");
        if (wrong != 0) System.exit(1);
    }
}
