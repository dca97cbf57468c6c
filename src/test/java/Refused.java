import java.util.ArrayList;
import java.util.List;
import java.util.function.Consumer;

/**
 * Calls that are refused. Each is tried on objects of its own; then all that can be told of them, now and later,
 * is as if it had not been called. Only trace() is not asked: the document lets it change.
 */
final class Refused {
    private static final List<Consumer<Told>> QUESTIONS = List.of(Told::rolls, Told::instruments, Told::playing);

    private Refused() {
    }

    /** These calls, in this scene, have this answer, and status() tells of it. */
    static void are(Due due, Consumer<Run> scene, int want, String... calls) {
        tryAll(due, scene, want, want <= -11 ? -10 - want : want == Run.NONE ? 0 : want, calls);
    }

    /** Those that answer a long: 0, and status() tells why. */
    static void areZero(Due due, Consumer<Run> scene, int status, String... calls) {
        tryAll(due, scene, 0, status, calls);
    }

    private static void tryAll(Due due, Consumer<Run> scene, int want, int status, String... calls) {
        for (Consumer<Told> questions : QUESTIONS) {
            List<String> before = toldUntouched(due, scene, questions);
            for (String call : calls) {
                Run run = new Run(due);
                scene.accept(run);
                run.isWith(status, call, want);
                compare(due, call, before, toldBy(run, questions));
            }
        }
    }

    /** status() is asked three times, so that as many calls are left for questions as behind a refused call. */
    private static List<String> toldUntouched(Due due, Consumer<Run> scene, Consumer<Told> questions) {
        Run run = new Run(due);
        scene.accept(run);
        run.does("status()", "status()", "status()");
        return toldBy(run, questions);
    }

    private static List<String> toldBy(Run run, Consumer<Told> questions) {
        Told told = new Told(run);
        questions.accept(told);
        return told.all();
    }

    private static void compare(Due due, String call, List<String> before, List<String> then) {
        List<String> unlike = new ArrayList<>();
        for (int i = 0; i < before.size() && i < then.size(); i++) {
            if (!before.get(i).equals(then.get(i))) unlike.add(then.get(i) + ", not " + before.get(i));
        }
        if (before.size() != then.size()) unlike.add(then.size() + " answers, not " + before.size());
        due.is("what changed behind " + call + ": " + unlike, unlike.size(), 0);
    }
}
