import java.util.ArrayList;
import java.util.List;

/** All that can be told of an object: first what it is, then how it goes on. */
final class Told {
    private final Run run;
    private final List<String> all = new ArrayList<>();

    Told(Run run) {
        this.run = run;
    }

    List<String> all() {
        return all;
    }

    /** Nothing is asked beyond the calls that an object is good for. */
    private long ask(String call) {
        if (run.left() == 0) return 0;
        long answer = run.ask(call);
        all.add(call + " = " + answer);
        return answer;
    }

    private void row(String call, long n) {
        for (int k = 0; k < n; k++) ask(call.replace("*", "" + k));
    }

    void rolls() {
        row("count(*)", 8);
        long rolls = ask("count(0)");
        for (int r = 0; r < rolls; r++) {
            ask("digest(" + r + ")");
            ask("whole(" + r + ")");
            long strips = Math.min(ask("strips(" + r + ")"), 8);
            row("read(" + r + ", *)", strips);
            row("told(" + r + ", *, 3)", strips);
        }
        row("fallen(*, 0)", 9);
        row("fallen(*, 1)", 9);
        ask("halt()");
        for (int i = 0; i < 2; i++) {
            ask("strip(0, 0, 0, 1, 0)");
            ask("roll()");
        }
        ask("count(6)");
    }

    void instruments() {
        row("count(*)", 8);
        long instruments = Math.min(ask("count(1)"), 40);
        row("members(*)", instruments);
        row("frequency(*)", instruments);
        row("times(*, 0)", instruments);
        row("times(*, 1)", instruments);
        ask("halt()");
        ask("play(0)");
        ask("tick(4)");
        long events = Math.min(ask("count(3)"), 24);
        for (int what = 0; what < 4; what++) row("event(*, " + what + ")", events);
        ask("halt()");
        row("spoil(*, 0)", Math.min(instruments, 12));
        for (int i = 0; i < 2; i++) {
            ask("instrument(0)");
            ask("couple(6, 0)");
            ask("chest(7, 1)");
        }
        row("place(*, 0, 3)", ask("count(2)"));
    }

    void playing() {
        now();
        row("level(*)", 8);
        row("stop(*)", 16);
        long events = Math.min(ask("count(3)"), 40);
        for (int what = 0; what < 4; what++) row("event(*, " + what + ")", events);
        ask("tick(1)");
        now();
        ask("back(1)");
        now();
        ask("back(3)");
        now();
        ask("tick(500)");
        row("at(*)", 9);
        ask("back(0)");
    }

    private void now() {
        row("at(*)", 9);
        row("open(*)", 8);
        long sounds = Math.min(ask("count(4)"), 9);
        for (int what = 0; what < 3; what++) row("sounding(*, " + what + ")", sounds);
        row("loud(*)", sounds);
    }
}
