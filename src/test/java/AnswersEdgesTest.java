import java.util.ArrayList;
import java.util.List;

/** Section 1: which answer comes first, and that a refused call leaves all as it was. */
public final class AnswersEdgesTest {
    private static final int BAD = Run.BAD, FULL = Run.FULL, BUSY = Run.BUSY, NONE = Run.NONE;

    /** Calls with R for a ROLL, S for a STRIP of ROLL 0, I for an INSTRUMENT, C for a CHEST, T for a TRACK. */
    private static final String[] WITH_THINGS = {
        "strip(R, 0, 0, 0, 0)", "punch(R, 0, 0, 0)", "punch(0, S, 0, 0)", "seal(R, 0)", "seal(0, S)", "lose(R, 0)",
        "lose(0, S)", "tear(R, 0, 9)", "tear(0, S, 9)", "damage(R, 0, 0, 1)", "damage(0, S, 0, 1)", "byteOf(R, 0, 0)",
        "byteOf(0, S, 0)", "read(R, 0)", "read(0, S)", "whole(R)", "finding(R, 0)", "told(R, 0, 0)", "told(0, S, 0)",
        "couple(I, 0)", "couple(6, I)", "place(C, 0, 0)", "wire(T, 0, 0)", "spoil(I, 1)", "tune(I, 1, 1)", "mute(I)",
        "higher(I, 0)", "higher(0, I)", "play(R)", "open(T)", "level(T)", "times(I, 0)", "cut(R, 0)", "join(R, 0)",
        "join(0, R)", "repeat(R, 0, 0)", "move(R, 0, 0, 0, 0)", "move(0, 0, 0, R, 0)", "copy(R, 0, 0, 0, 0, 0, 0)",
        "copy(0, S, 0, 0, 0, 0, 0)", "copy(0, 0, 0, 0, R, 0, 0)", "copy(0, 0, 0, 0, 0, S, 0)", "transpose(R, 0, 0)",
        "transpose(0, S, 0)", "mend(R, 0, 0)", "mend(0, S, 0)", "mend(0, 0, R)", "equal(R, 0)", "equal(0, R)",
        "strips(R)", "members(I)"};
    private static final String[] LONG_WITH_THINGS = {
        "head(R, 0, 0)", "head(0, S, 0)", "sum(R, 0)", "sum(0, S)", "frequency(I)", "digest(R)"};

    /** Each act that says BUSY, with numbers that would do if nothing were PLAYED. */
    private static final String[] SAY_BUSY = {
        "roll()", "strip(0, 0, 0, 1, 1)", "punch(0, 0, 0, 7)", "seal(1, 1)", "lose(0, 0)", "tear(0, 0, 9)",
        "damage(0, 0, 0, 1)", "instrument(0)", "couple(6, 1)", "chest(7, 1)", "place(0, 0, 1)", "wire(0, 0, 3)",
        "spoil(0, 1)", "tune(0, 2, 1)", "base(16)", "play(0)", "play(2)", "cut(0, 1)", "join(0, 1)", "repeat(0, 0, 1)",
        "move(0, 0, 1, 0, 0)", "copy(0, 1, 0, 1, 0, 1, 1)", "transpose(0, 1, 1)", "mend(1, 1, 0)", "mend(0, 0, 0)"};

    public static void main(String[] args) {
        Due.runAll(AnswersEdgesTest.class);
    }

    /** The calls with the numbers that are not there: right below and behind those that are, and an int's ends. */
    private static String[] without(String[] calls) {
        List<String> all = new ArrayList<>();
        for (String call : calls) {
            String[][] none = {{"R", "-1", "3"}, {"S", "-1", "4"}, {"I", "-1", "8"}, {"C", "-1", "2"}, {"T", "-1", "8"}};
            for (String[] one : none) {
                if (!call.matches(".*\\b" + one[0] + "\\b.*")) continue;
                for (String number : new String[] {one[1], one[2], "MIN", "MAX"}) {
                    all.add(call.replaceAll("\\b" + one[0] + "\\b", number));
                }
            }
        }
        return all.toArray(new String[0]);
    }

    @Says("section 1: BAD -1: a number is not as told, or there is no such thing")
    static void noSuchThing(Due due) {
        Refused.are(due, Scenes::rest, BAD, without(WITH_THINGS));
        Refused.areZero(due, Scenes::rest, BAD, without(LONG_WITH_THINGS));
    }

    @Says("section 1: ANSWERS, the first of these that fits: BAD, BUSY: while a ROLL is PLAYED there is no such thing")
    static void badComesAheadOfBusy(Due due) {
        Refused.are(due, Scenes::busy, BAD, without(WITH_THINGS));
        Refused.areZero(due, Scenes::busy, BAD, without(LONG_WITH_THINGS));
        Refused.are(due, Scenes::busy, BAD, "strip(0, 4, 0, 0, 0)", "strip(0, 0, 30001, 0, 0)", "strip(0, 0, 0, 257, 0)",
            "strip(0, 0, 0, 0, 257)", "tear(0, 0, -1)", "instrument(7)", "couple(6, 6)", "couple(6, 7)", "chest(8, 1)",
            "place(0, 0, -2)", "wire(0, -2, 0)", "spoil(0, 1001)", "tune(0, 1, 0)", "base(0)", "tick(501)", "back(501)",
            "cut(0, 5)", "join(0, 0)", "repeat(0, 0, 9)", "repeat(0, 4, 1)", "move(0, 0, 9, 0, 0)", "transpose(0, 1, 8)");
    }

    @Says("section 1: there is no such thing: a ROLL without STRIPS, and nothing at all")
    static void emptyHasNone(Due due) {
        Refused.are(due, Scenes::rest, BAD, "punch(2, 0, 0, 0)", "seal(2, 0)", "lose(2, 0)", "tear(2, 0, 0)",
            "damage(2, 0, 0, 0)", "byteOf(2, 0, 0)", "read(2, 0)", "told(2, 0, 0)", "cut(2, 1)", "repeat(2, 0, 1)",
            "copy(2, 0, 0, 0, 0, 0, 0)", "copy(0, 0, 0, 0, 2, 0, 0)", "transpose(2, 0, 0)", "mend(2, 0, 0)");
        Refused.are(due, Scenes::nothing, BAD, "strip(0, 0, 0, 0, 0)", "whole(0)", "finding(0, 0)", "couple(0, 1)",
            "place(0, 0, -1)", "place(0, 0, 0)", "wire(0, 0, 0)", "spoil(0, 0)", "tune(0, 1, 1)", "mute(0)", "higher(0, 0)",
            "play(0)", "times(0, 0)", "cut(0, 0)", "join(0, 1)", "repeat(0, 0, 0)", "move(0, 0, 0, 0, 0)", "equal(0, 0)",
            "strips(0)", "members(0)");
        Refused.areZero(due, Scenes::nothing, BAD, "head(0, 0, 0)", "sum(0, 0)", "frequency(0)", "digest(0)");
    }

    @Says("section 1: BUSY -3: a ROLL is PLAYED (of acts that say so)")
    static void busyWhilePlayed(Due due) {
        Refused.are(due, Scenes::busy, BUSY, SAY_BUSY);
    }

    @Says("section 1: BUSY -3: a ROLL is PLAYED: not before it began, nor when it is over or halted")
    static void busyNoMore(Due due) {
        for (String call : SAY_BUSY) {
            Run over = new Run(due);
            Scenes.over(over);
            due.is(call + " when it is over is not BUSY", over.ask(call) == BUSY ? 1 : 0, 0);
            Run halted = new Run(due);
            Scenes.rest(halted);
            due.is(call + " when it is halted is not BUSY", halted.ask(call) == BUSY ? 1 : 0, 0);
        }
        new Run(due).is("roll()", 0).is("play(0)", 0).is("roll()", BUSY).is("tick(0)", 0).is("roll()", BUSY)
            .is("tick(1)", 0).is("roll()", 1).is("play(1)", 0).is("roll()", BUSY).is("halt()", 0).is("roll()", 2);
    }

    @Says("section 1: BUSY (of acts that say so): the others are as ever while a ROLL is PLAYED")
    static void othersAreNotBusy(Due due) {
        Run r = new Run(due);
        Scenes.busy(r);
        r.is("byteOf(0, 0, 4)", 1).is("head(0, 0, 0)", 3).is("read(0, 1)", 4).is("whole(1)", 1).is("finding(1, 0)", 1);
        r.is("told(1, 4, 0)", 1).is("frequency(3)", 0).is("mute(1)", 1).is("higher(0, 2)", 1).is("level(0)", 1000);
        r.is("stop(0)", 1).is("at(7)", 1).is("times(7, 0)", 0).is("fallen(0, 1)", 6).is("equal(0, 0)", 1);
        r.is("count(0)", 3).is("strips(2)", 0).is("members(6)", 2).is("event(0, 0)", 0).is("tick(0)", 0);
        r.is("back(0)", 5).is("open(2)", NONE).is("sounding(99, 0)", NONE).is("loud(99)", NONE);
        due.is("sum(0, 0) is there", r.ask("sum(0, 0)") == r.ask("head(0, 0, 3)") ? 1 : 0, 1);
        due.is("digest(0) is there", r.ask("digest(0)") != 0 ? 1 : 0, 1);
        due.is("trace(14) is there", r.ask("trace(14)") > 0 ? 1 : 0, 1);
    }

    @Says("section 1: the first of these that fits: BUSY, FULL")
    static void busyComesAheadOfFull(Due due) {
        Refused.are(due, r -> { Scenes.twentyRolls(r); r.does("play(0)", "tick(3)"); }, BUSY, "roll()", "cut(0, 0)");
        Refused.are(due, r -> { Scenes.allStrips(r); r.does("play(0)", "tick(3)"); }, BUSY, "strip(0, 0, 0, 0, 0)",
            "repeat(0, 0, 1)", "join(0, 1)");
        Refused.are(due, r -> { Scenes.allElements(r); r.does("play(0)", "tick(3)"); }, BUSY, "strip(0, 0, 0, 1, 0)",
            "repeat(0, 0, 1)", "join(1, 0)");
        Refused.are(due, r -> { Scenes.allInstruments(r); r.does("roll()", "play(0)"); }, BUSY, "instrument(0)");
        Refused.are(due, r -> { Scenes.allChests(r); r.does("roll()", "play(0)"); }, BUSY, "chest(0, 1)");
        Refused.are(due, r -> { Scenes.allPlaces(r); r.does("roll()", "play(0)"); }, BUSY, "chest(0, 1)", "chest(0, MAX)");
        Refused.are(due, r -> { Scenes.allMembers(r); r.does("roll()", "play(0)"); }, BUSY, "couple(0, 1)");
        Refused.are(due, r -> { Scenes.allSizes(r); r.does("roll()", "play(0)"); }, BUSY, "couple(0, 3)", "couple(4, 0)");
    }

    @Says("section 1: the first of these that fits: BUSY, a FINDING")
    static void busyComesAheadOfFindings(Due due) {
        Refused.are(due, Scenes::busy, BUSY, "strip(0, 0, 0, -1, 0)", "punch(1, 3, 0, 0)", "punch(0, 0, -1, 0)",
            "seal(1, 3)", "lose(1, 3)", "tear(1, 3, 0)", "damage(1, 3, 0, 1)", "damage(0, 0, -1, 1)", "couple(0, 1)",
            "chest(0, -1)", "place(0, 8, 0)", "place(1, 0, 3)", "tune(3, 1, 1)", "tune(6, 1, 1)",
            "move(0, 9, 1, 0, 0)", "copy(1, 3, 0, 0, 0, 0, 0)", "copy(0, 0, 0, 0, 0, 1, 0)", "copy(0, 0, 0, -1, 0, 0, 0)",
            "transpose(0, 0, 1)", "transpose(1, 1, 1)");
    }

    @Says("section 1: the first of these that fits: BUSY, NONE")
    static void busyComesAheadOfNone(Due due) {
        Refused.are(due, Scenes::busy, BUSY, "mend(1, 1, 0)", "mend(1, 3, 2)");
        Refused.are(due, Scenes::rest, NONE, "mend(1, 1, 0)", "mend(1, 3, 2)");
    }

    @Says("section 1: the first of these that fits: FULL -2; then -10 less a FINDING")
    static void fullComesAheadOfSize(Due due) {
        Refused.are(due, Scenes::allStrips, FULL, "strip(0, 0, 0, -1, 0)", "strip(0, 0, 0, MIN, 0)");
        Refused.are(due, Scenes::allElements, Run.SIZE, "strip(0, 0, 0, -1, 0)", "strip(0, 0, 0, MIN, 0)");
        Refused.are(due, Scenes::allChests, FULL, "chest(0, -1)", "chest(0, MIN)");
        Refused.are(due, Scenes::allPlaces, Run.SIZE, "chest(0, -1)", "chest(0, MIN)");
    }

    @Says("section 1: -10 less a FINDING: 1 LOST 2 TORN 3 SIZE 4 SPAN 5 KIND 6 STORE 7 LONG, 8 SHORT, 9 SUM")
    static void eachFinding(Due due) {
        Refused.are(due, Scenes::rest, -11, "seal(1, 3)", "read(1, 3)");
        Refused.are(due, Scenes::rest, -12, "byteOf(0, 0, 13)", "read(1, 2)");
        Refused.are(due, Scenes::rest, -13, "strip(0, 0, 0, -1, 0)", "chest(0, -1)");
        Refused.are(due, Scenes::rest, -14, "copy(0, 0, 0, 2, 0, 0, 0)");
        Refused.are(due, Scenes::rest, -15, "mute(3)", "members(0)", "couple(0, 1)");
        Refused.are(due, Scenes::rest, -16, "place(1, 0, 3)");
        Refused.are(due, r -> { Scenes.rest(r); r.does("tear(0, 1, 12)"); }, -17, "read(0, 1)", "transpose(0, 1, 0)");
        Refused.are(due, r -> { Scenes.rest(r); r.does("damage(0, 1, 4, 7)"); }, -18, "read(0, 1)", "transpose(0, 1, 0)");
        Refused.are(due, Scenes::rest, -19, "read(1, 1)", "transpose(1, 1, 0)");
    }

    @Says("section 1: NONE -4: there is none")
    static void noneOfAll(Due due) {
        Refused.are(due, Scenes::rest, NONE, "finding(0, 0)", "finding(2, 0)", "finding(1, 4)", "tick(0)", "tick(500)",
            "halt()", "back(0)", "back(500)", "open(0)", "open(7)", "sounding(0, 0)", "sounding(MAX, 2)", "loud(0)",
            "loud(MAX)", "event(MAX, 0)", "fallen(MAX, 0)", "mend(1, 2, 2)");
        Refused.are(due, Scenes::over, NONE, "tick(1)", "halt()", "back(1)", "open(1)", "sounding(0, 1)", "loud(0)");
        Refused.are(due, Scenes::busy, NONE, "back(6)", "open(2)", "sounding(99, 0)", "loud(99)", "event(999, 3)",
            "finding(0, 0)", "fallen(99, 1)");
        Refused.are(due, Scenes::nothing, NONE, "tick(1)", "halt()", "back(0)", "open(0)", "sounding(0, 0)", "loud(0)",
            "event(0, 0)", "fallen(0, 0)", "at(4)");
    }

    @Says("section 1: the first of these that fits: BAD .. NONE: there is none, and a number is not as told")
    static void badComesAheadOfNone(Due due) {
        Refused.are(due, Scenes::nothing, BAD, "tick(-1)", "tick(501)", "back(-1)", "back(501)", "open(-1)", "open(8)",
            "sounding(0, 3)", "sounding(-1, 0)", "loud(-1)", "event(0, 4)", "event(-1, 0)", "fallen(0, 2)", "fallen(-1, 0)",
            "finding(0, 0)", "at(9)");
        Refused.are(due, Scenes::rest, BAD, "finding(0, -1)", "finding(0, MIN)", "finding(3, 0)", "mend(1, 1, 3)");
    }

    @Says("section 1: What answers a long tells 0 in place of all these but NONE, which it has not")
    static void longsTellZero(Due due) {
        Refused.areZero(due, Scenes::rest, BAD, "head(0, 0, -1)", "head(0, 0, 4)", "head(2, 0, 0)", "sum(2, 0)");
        Refused.areZero(due, Scenes::rest, 1, "head(1, 3, 0)", "head(1, 3, 3)", "sum(1, 3)");
        Refused.areZero(due, Scenes::rest, 2, "head(1, 2, 2)", "head(1, 2, 3)", "sum(1, 2)");
        Refused.areZero(due, Scenes::rest, 5, "frequency(3)");
    }

    @Says("section 1: status() tells of the latest act but status(): 0, or BAD, BUSY, FULL, or its FINDING (1 .. 10)")
    static void statusOfTheLatest(Due due) {
        Run r = new Run(due);
        r.is("status()", 0).isWith(BAD, "play(0)", BAD).is("status()", BAD).isWith(0, "roll()", 0);
        r.isWith(0, "finding(0, 0)", NONE).isWith(3, "strip(0, 0, 0, -1, 0)", -13).is("status()", 3);
        r.isWith(0, "halt()", NONE).isWith(0, "play(0)", 0).isWith(BUSY, "roll()", BUSY).isWith(0, "tick(1)", 0);
        for (int i = 1; i < 20; i++) r.does("roll()");
        r.isWith(FULL, "roll()", FULL).isWith(FULL, "cut(0, 0)", FULL).isWith(0, "count(0)", 20);
    }

    @Says("section 0: An object is used for at most 512 calls after it has been made")
    static void theLastCalls(Due due) {
        Run r = new Run(due);
        r.does("roll()", "strip(0, 0, 0, 200, 256)", "instrument(0)", "chest(7, 1)", "place(0, 0, 0)", "wire(0, 0, 0)");
        for (int k = 0; k < 200; k += 2) r.does("punch(0, 0, " + k + ", 1)");
        r.is("play(0)", 1).is("tick(200)", 200).is("count(3)", 201).is("back(200)", 0);
        while (r.left() > 4) r.does("trace(0)");
        r.is("tick(256)", 256).is("count(3)", 201).is("at(8)", 456).is("status()", 0);
        due.is("calls that are left", r.left(), 0);
    }
}
