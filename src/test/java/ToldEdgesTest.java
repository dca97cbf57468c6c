/** Promises 49 to 53 at their edges. */
public final class ToldEdgesTest {
    private static final int BAD = Run.BAD, FULL = Run.FULL, BUSY = Run.BUSY, NONE = Run.NONE, KIND = Run.KIND;

    public static void main(String[] args) {
        Due.runAll(ToldEdgesTest.class);
    }

    @Says("49: 0 ROLLS, 1 INSTRUMENTS, 2 CHESTS, 3 EVENTS ever since the latest ROLL began, 4 that sound, 5 FALLEN, 6 ELEMENTS, 7 PLACES. BAD")
    static void countAll(Due due) {
        new Run(due).row("count(*)", 0, 0, 0, 0, 0, 0, 0, 0, BAD).is("count(-1)", BAD);
        Run r = new Run(due);
        Scenes.busy(r);
        r.row("count(*)", 3, 8, 2, r.ask("count(3)"), r.ask("count(4)"), 2, 14, 10, BAD);
        Refused.are(due, Scenes::busy, BAD, "count(-1)", "count(8)", "count(MIN)", "count(MAX)");
    }

    @Says("49: 3 EVENTS ever since the latest ROLL began, 4 that sound")
    static void countEvents(Due due) {
        Run r = new Run(due).does("instrument(0)", "chest(0, 1)", "place(0, 0, 0)", "wire(0, 0, 0)", "wire(1, 0, 0)", "roll()");
        r.strip(0, 2, 3, 1).does("play(0)").is("count(3)", 0).is("count(4)", 0).is("tick(1)", 1).is("count(3)", 3).is("count(4)", 2);
        r.is("tick(1)", 1).is("count(3)", 4).is("count(4)", 1).is("tick(1)", 0).is("count(3)", 5).is("count(4)", 0);
        r.does("play(0)").is("count(3)", 0).is("tick(1)", 1).is("back(1)", 0).is("count(3)", 0).is("count(4)", 0);
    }

    @Says("49: 6 ELEMENTS")
    static void countElements(Due due) {
        Run r = new Run(due).does("roll()", "roll()").strip(0, 0, 1, 2, 3).strip(3, 0, 1, 2).is("count(6)", 5).is("join(1, 0)", 2);
        r.is("count(6)", 10).is("cut(1, 1)", 2).is("count(6)", 10).is("tear(0, 1, 16)", 1).is("count(6)", 9).is("repeat(0, 0, 2)", 4);
        r.is("count(6)", 13).is("move(0, 0, 1, 0, 2)", 1).is("count(6)", 13).is("move(0, 1, 1, 2, 0)", 1).is("count(6)", 12);
        r.is("lose(0, 0)", 1).is("count(6)", 9).is("mend(0, 0, 1)", 0).is("count(6)", 12).is("seal(0, 0)", 3).is("count(6)", 12);
        r.is("tear(0, 0, 8)", 0).is("count(6)", 9).is("lose(0, 0)", 1).is("count(6)", 9).is("join(1, 0)", 5).is("count(6)", 14);
    }

    @Says("50: How many STRIPS a ROLL has. BAD")
    static void stripsNoneAndAll(Due due) {
        Run r = new Run(due);
        Scenes.allStrips(r);
        r.row("strips(*)", 396, 4, 0, BAD).is("strips(-1)", BAD);
        new Run(due).does("roll()").is("strips(0)", 0).does("strip(0, 0, 0, 0, 0)").is("strips(0)", 1).does("lose(0, 0)").is("strips(0)", 1);
    }

    @Says("51: How many MEMBERS a COUPLER has. BAD; KIND")
    static void membersNoneAndAll(Due due) {
        Run r = new Run(due);
        Scenes.allMembers(r);
        r.is("members(0)", 8).isWith(5, "members(1)", KIND).isWith(BAD, "members(2)", BAD).is("members(-1)", BAD);
        Refused.are(due, Scenes::rest, KIND, "members(0)", "members(1)", "members(2)", "members(3)", "members(4)", "members(5)");
        new Run(due).does("instrument(6)", "instrument(6)").is("members(0)", 0).does("couple(0, 1)").is("members(0)", 1).is("members(1)", 0);
    }

    @Says("52: How often BODY b was done, ever. BAD: b is not 0 .. 16")
    static void traceFirstAndLast(Due due) {
        new Run(due).row("trace(*)", new long[17]).is("trace(17)", BAD).is("trace(-1)", BAD);
        Refused.are(due, Scenes::busy, BAD, "trace(-1)", "trace(17)", "trace(MIN)", "trace(MAX)");
        Run r = new Run(due).does("instrument(0)", "chest(0, 1)", "place(0, 0, 0)", "wire(0, 0, 0)", "roll()").strip(0, 1, 1);
        for (int n = 1; n <= 3; n++) {
            r.does("play(0)").is("tick(1)", 1).is("loud(0)", 1019).is("trace(0)", n).is("trace(6)", n).is("trace(8)", n).is("trace(14)", n);
            r.is("trace(16)", n - 1).does("halt()").is("trace(16)", n);
        }
    }

    @Says("52: How often BODY b was done: what is refused does none but those that it began")
    static void traceOfRefused(Due due) {
        Run r = new Run(due);
        for (int kind = 0; kind < 7; kind++) r.does("instrument(" + kind + ")");
        r.does("frequency(7)", "frequency(3)", "mute(3)", "mute(-1)", "higher(3, 0)", "higher(0, 3)", "higher(0, 7)", "loud(0)", "loud(-1)");
        r.row("trace(*)", new long[17]);
    }

    @Says("53: How the latest act but status() went: 0, or BAD, BUSY, FULL, or its FINDING (1 .. 10)")
    static void statusOfEach(Due due) {
        new Run(due).is("status()", 0).is("status()", 0).is("open(9)", BAD).is("status()", BAD).is("status()", BAD);
        Run r = new Run(due);
        Scenes.rest(r);
        r.isWith(0, "lose(1, 3)", 0).isWith(1, "seal(1, 3)", -11).isWith(2, "byteOf(1, 2, 4)", -12).isWith(3, "chest(0, -1)", -13);
        r.isWith(4, "copy(0, 0, 9, 0, 0, 0, 0)", -14).isWith(5, "mute(3)", -15).isWith(6, "place(1, 0, 3)", -16);
        r.does("tear(0, 1, 12)").isWith(7, "read(0, 1)", -17).does("seal(0, 1)", "damage(0, 1, 4, 1)").isWith(8, "read(0, 1)", -18);
        r.isWith(9, "read(1, 1)", -19).isWith(0, "read(0, 0)", 1).isWith(FULL, "chest(0, 201)", FULL).isWith(0, "halt()", NONE);
        r.isWith(0, "play(2)", 0).isWith(BUSY, "roll()", BUSY).isWith(0, "at(4)", NONE).isWith(0, "tick(1)", 0);
        r.isWith(1, "head(1, 3, 0)", 0).isWith(2, "sum(1, 2)", 0).isWith(5, "frequency(3)", 0).isWith(BAD, "digest(9)", 0);
        r.isWith(0, "digest(2)", 7).isWith(2, "move(0, 9, 1, 0, 0)", 0).isWith(0, "tune(0, 0, 0)", 0).isWith(0, "higher(0, 0)", 0);
    }

    /** Calls that are answered in the scene at rest; each behind one that is refused. */
    private static final String[] ANSWERED_AT_REST = {
        "roll()", "strip(0, 0, 0, 1, 1)", "punch(0, 0, 0, 1)", "seal(0, 0)", "lose(0, 0)", "lose(1, 3)", "tear(0, 0, 9)",
        "damage(0, 0, 0, 1)", "byteOf(0, 0, 0)", "head(0, 0, 0)", "sum(0, 0)", "read(0, 0)", "whole(0)", "finding(1, 0)",
        "finding(0, 0)", "told(0, 0, 0)", "told(1, 3, 3)", "instrument(0)", "couple(6, 1)", "chest(7, 1)", "place(0, 0, 1)",
        "place(0, 0, -1)", "wire(0, 0, 9)", "wire(0, -1, 0)", "spoil(0, 1)", "tune(0, 1, 2)", "tune(0, 0, 0)", "base(1)",
        "frequency(0)", "frequency(1)", "mute(0)", "mute(1)", "higher(0, 2)", "higher(2, 0)", "higher(0, 0)", "higher(0, 1)",
        "play(0)", "play(2)", "tick(1)", "halt()", "back(0)", "open(0)", "sounding(0, 0)", "loud(0)", "level(0)", "stop(0)",
        "at(0)", "at(4)", "at(7)", "at(8)", "times(0, 0)", "times(0, 1)", "event(0, 0)", "event(999, 0)", "cut(0, 0)",
        "join(0, 1)", "repeat(0, 0, 1)", "repeat(0, 0, 0)", "move(0, 0, 1, 0, 0)", "move(0, 0, 0, 0, 0)",
        "copy(0, 0, 0, 1, 0, 0, 0)", "transpose(1, 0, 1)", "transpose(1, 0, 0)", "fallen(0, 0)", "fallen(0, 1)", "fallen(9, 0)",
        "mend(0, 0, 1)", "mend(1, 1, 0)", "equal(0, 0)", "equal(0, 1)", "equal(1, 2)", "digest(0)", "count(0)", "count(1)",
        "count(2)", "count(3)", "count(4)", "count(5)", "count(6)", "count(7)", "strips(0)", "members(6)", "trace(0)", "trace(16)"};

    private static final String[] ANSWERED_WHILE_PLAYED = {
        "tick(0)", "tick(1)", "tick(500)", "halt()", "back(0)", "back(5)", "back(6)", "open(0)", "open(1)", "open(2)",
        "sounding(0, 0)", "sounding(0, 1)", "sounding(0, 2)", "sounding(99, 0)", "loud(0)", "loud(1)", "loud(2)", "loud(99)",
        "level(0)", "stop(0)", "at(0)", "at(4)", "at(5)", "at(6)", "at(7)", "at(8)", "times(0, 0)", "event(0, 0)", "event(99, 0)"};

    @Says("53: How the latest act but status() went: 0 behind each act that is answered, or answered with NONE")
    static void statusOfAnswered(Due due) {
        for (String call : ANSWERED_AT_REST) {
            Run r = new Run(due);
            Scenes.rest(r);
            due.is("status() behind " + call, r.does("count(-1)", call).ask("status()"), 0);
        }
        for (String call : ANSWERED_WHILE_PLAYED) {
            Run r = new Run(due);
            Scenes.busy(r);
            due.is("status() behind " + call, r.does("count(-1)", call).ask("status()"), 0);
        }
        new Run(due).does("roll()", "strip(0, 0, 0, 0, 0)", "play(0)", "count(-1)").is("tick(1)", 0).is("status()", 0);
    }
}
