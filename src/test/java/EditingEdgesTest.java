/** Promises 39 to 48 at their edges. */
public final class EditingEdgesTest {
    private static final int BAD = Run.BAD, FULL = Run.FULL, BUSY = Run.BUSY, NONE = Run.NONE;
    private static final int LOST = Run.LOST, TORN = Run.TORN, SPAN = Run.SPAN, KIND = Run.KIND, SUM = Run.SUM;

    public static void main(String[] args) {
        Due.runAll(EditingEdgesTest.class);
    }

    /** ROLL 0 has n STRIPS of LEVELS, their NUMBERS from 0 on, of as many ELEMENTS as their NUMBERS; ROLL 1 has none. */
    private static Run levels(Due due, int n) {
        Run r = new Run(due).is("roll()", 0).is("roll()", 1);
        for (int i = 0; i < n; i++) r.is("strip(0, 1, " + i + ", " + i + ", 1)", i);
        return r;
    }

    private static Run numbers(Run r, int roll, long... want) {
        r.is("strips(" + roll + ")", want.length);
        for (int s = 0; s < want.length; s++) r.is("told(" + roll + ", " + s + ", 1)", want[s]);
        return r;
    }

    /** So many ELEMENTS in ROLL 0, in STRIPS of HOLES; ROLL 1 has none. */
    private static Run holes(Due due, int elements) {
        Run r = new Run(due).is("roll()", 0).is("roll()", 1);
        for (int left = elements; left > 0; left -= 256) r.does("strip(0, 0, 9, " + Math.min(left, 256) + ", 1)");
        return r.is("count(6)", elements);
    }

    // ---- cut, join, repeat

    @Says("39: STRIPS of a ROLL from place k on become a new ROLL: its number. BAD: k is not 0 .. how many it has")
    static void cutFirstAndLast(Due due) {
        for (int k = 0; k <= 3; k++) {
            Run r = levels(due, 3).isWith(0, "cut(0, " + k + ")", 2).is("count(0)", 3).is("count(6)", 3);
            long[] first = new long[k];
            long[] rest = new long[3 - k];
            for (int s = 0; s < 3; s++) {
                if (s < k) first[s] = s;
                else rest[s - k] = s;
            }
            numbers(numbers(r, 0, first), 2, rest).is("read(0, " + k + ")", BAD).is("strip(0, 0, 7, 0, 0)", k);
        }
        new Run(due).is("roll()", 0).is("cut(0, 0)", 1).is("strips(0)", 0).is("strips(1)", 0);
        Refused.are(due, Scenes::rest, BAD, "cut(0, -1)", "cut(0, 5)", "cut(0, MIN)", "cut(0, MAX)", "cut(2, 1)", "cut(3, 0)");
    }

    @Says("39: BAD ..; BUSY, FULL: the first of these")
    static void cutFull(Due due) {
        Refused.are(due, Scenes::twentyRolls, FULL, "cut(0, 0)", "cut(0, 4)", "cut(2, 0)");
        Refused.are(due, Scenes::twentyRolls, BAD, "cut(0, -1)", "cut(0, 5)", "cut(20, 0)");
        Refused.are(due, Scenes::busy, BUSY, "cut(0, 0)", "cut(0, 4)");
        Run r = new Run(due);
        for (int i = 0; i < 19; i++) r.is("roll()", i);
        r.is("strip(0, 0, 0, 0, 0)", 0).is("cut(0, 0)", 19).is("strips(19)", 1).is("cut(19, 0)", FULL).is("strips(19)", 1);
    }

    @Says("39: STRIPS .. become a new ROLL's: none comes, none goes")
    static void cutOfAll(Due due) {
        Run r = new Run(due);
        Scenes.allStrips(r);
        r.is("cut(0, 1)", 3).is("strips(3)", 395).is("strip(0, 0, 0, 0, 0)", FULL);
        Run full = new Run(due);
        Scenes.allElements(full);
        full.is("cut(0, 10)", 2).is("count(6)", 8000).is("strip(0, 0, 0, 1, 0)", FULL).is("whole(2)", 22);
    }

    @Says("40: Copies of all STRIPS of another ROLL come behind a ROLL's (BYTES and LIST alike; LOST ones, too): how many it has")
    static void joinAll(Due due) {
        Run r = new Run(due);
        Scenes.rest(r);
        r.isWith(0, "join(2, 1)", 5).is("equal(2, 1)", 1).row("read(2, *)", 3, SUM, TORN, LOST, LOST).row("told(2, *, 1)", 5, 6, 7, 8, 9);
        r.is("join(2, 0)", 9).is("read(2, 5)", 1).is("strips(0)", 4).does("punch(2, 0, 0, 77)").is("equal(2, 1)", 0);
        r.is("byteOf(1, 0, 9)", 0).does("lose(2, 5)").is("read(0, 0)", 1);
    }

    @Says("40: Copies of all STRIPS: of a ROLL that has none, to a ROLL that has none")
    static void joinNone(Due due) {
        levels(due, 2).is("join(0, 1)", 2).is("join(1, 0)", 2).is("equal(0, 1)", 1).is("roll()", 2).is("roll()", 3)
            .is("join(2, 3)", 0).is("join(3, 2)", 0);
        Run r = new Run(due);
        Scenes.allStrips(r);
        r.does("roll()").is("join(0, 3)", 396).is("join(3, 0)", FULL).is("strips(3)", 0);
    }

    @Says("40: BAD: also the same; BUSY, FULL")
    static void joinRefused(Due due) {
        Refused.are(due, Scenes::rest, BAD, "join(0, 0)", "join(2, 2)", "join(0, 3)", "join(3, 0)", "join(3, 3)", "join(-1, -1)");
        Refused.are(due, Scenes::allStrips, BAD, "join(0, 0)", "join(0, 3)");
        Refused.are(due, Scenes::allElements, BAD, "join(0, 0)");
        Refused.are(due, Scenes::busy, BAD, "join(0, 0)");
    }

    @Says("40: FULL: 400 STRIPS, 8000 ELEMENTS")
    static void joinFull(Due due) {
        Refused.are(due, Scenes::allStrips, FULL, "join(0, 1)", "join(1, 0)", "join(2, 1)");
        Refused.are(due, Scenes::allElements, FULL, "join(1, 0)");
        Run strips = levels(due, 0);
        for (int s = 0; s < 8; s++) strips.does("strip(0, 0, 0, 0, 0)");
        for (int n = 8; n < 200; n += 8) strips.does("repeat(0, 0, 8)");
        strips.is("roll()", 2).is("strip(2, 0, 0, 0, 0)", 0).is("join(1, 0)", FULL).is("strips(1)", 0).is("cut(0, 199)", 3);
        strips.is("strips(0)", 199).is("join(1, 0)", 199).is("join(1, 2)", FULL).is("join(1, 3)", FULL);
        Run elements = holes(due, 4000).is("join(1, 0)", 16).is("count(6)", 8000);
        elements.is("strip(1, 0, 0, 1, 0)", FULL);
        Run more = holes(due, 4000).does("roll()", "strip(2, 0, 0, 1, 0)").isWith(FULL, "join(1, 0)", FULL).is("strips(1)", 0);
        more.is("count(6)", 4001).is("lose(2, 0)", 1).is("join(1, 0)", 16).is("count(6)", 8000).is("join(1, 2)", 17);
    }

    @Says("41: Copies of n STRIPS from place i on come right behind these: how many it has")
    static void repeatRightBehind(Due due) {
        numbers(levels(due, 3).isWith(0, "repeat(0, 0, 1)", 4), 0, 0, 0, 1, 2).is("count(6)", 3);
        numbers(levels(due, 3).is("repeat(0, 1, 1)", 4), 0, 0, 1, 1, 2).is("count(6)", 4);
        numbers(levels(due, 3).is("repeat(0, 2, 1)", 4), 0, 0, 1, 2, 2).is("count(6)", 5);
        numbers(levels(due, 3).is("repeat(0, 0, 2)", 5), 0, 0, 1, 0, 1, 2).is("count(6)", 4);
        numbers(levels(due, 3).is("repeat(0, 1, 2)", 5), 0, 0, 1, 2, 1, 2).is("count(6)", 6);
        numbers(levels(due, 3).is("repeat(0, 0, 3)", 6), 0, 0, 1, 2, 0, 1, 2).is("count(6)", 6);
        numbers(levels(due, 8).is("repeat(0, 0, 8)", 16), 0, 0, 1, 2, 3, 4, 5, 6, 7, 0, 1, 2, 3, 4, 5, 6, 7);
        Run r = new Run(due);
        Scenes.rest(r);
        r.is("repeat(1, 1, 3)", 8).row("read(1, *)", 3, SUM, TORN, LOST, SUM, TORN, LOST, LOST).does("seal(1, 4)").is("read(1, 1)", SUM);
    }

    @Says("41: BAD: n is not 0 .. 8, or these are not there; BUSY")
    static void repeatRefused(Due due) {
        levels(due, 9).is("repeat(0, 0, 0)", 9).is("repeat(0, 9, 0)", 9).is("repeat(0, 1, 8)", 17).is("repeat(0, 9, 8)", 25);
        levels(due, 0).is("repeat(0, 0, 0)", 0).is("repeat(0, 0, 1)", BAD);
        Refused.are(due, Scenes::rest, BAD, "repeat(0, 0, -1)", "repeat(0, 0, 9)", "repeat(0, 0, MIN)", "repeat(0, 0, MAX)",
            "repeat(0, -1, 1)", "repeat(0, -1, 2)", "repeat(0, 4, 1)", "repeat(0, 3, 2)", "repeat(0, 0, 5)", "repeat(0, MAX, 1)",
            "repeat(0, MAX, 8)", "repeat(0, 2147483640, 8)", "repeat(0, MIN, 8)", "repeat(2, 0, 1)", "repeat(3, 0, 0)");
        Refused.are(due, Scenes::allStrips, BAD, "repeat(0, 0, 9)", "repeat(0, 396, 1)", "repeat(1, 0, 5)");
    }

    @Says("41: FULL: 400 STRIPS, 8000 ELEMENTS")
    static void repeatFull(Due due) {
        Refused.are(due, Scenes::allStrips, FULL, "repeat(0, 0, 1)", "repeat(1, 0, 4)", "repeat(0, 388, 8)");
        Refused.are(due, Scenes::allElements, FULL, "repeat(0, 0, 1)", "repeat(0, 31, 1)", "repeat(0, 24, 8)");
        Run r = new Run(due);
        Scenes.allStrips(r);
        r.is("repeat(0, 0, 0)", 396);
        Run strips = levels(due, 0);
        for (int s = 0; s < 8; s++) strips.does("strip(0, 0, " + s + ", 0, 0)");
        for (int n = 8; n < 392; n += 8) strips.does("repeat(0, 0, 8)");
        strips.is("strip(1, 0, 0, 0, 0)", 0).is("repeat(0, 0, 8)", FULL).is("strips(0)", 392).is("repeat(0, 0, 7)", 399);
        strips.is("repeat(0, 0, 1)", FULL).is("told(0, 7, 1)", 0).is("told(0, 14, 1)", 7).is("told(0, 398, 1)", 7);
        holes(due, 7968).is("strip(1, 0, 0, 32, 0)", 0).is("repeat(1, 0, 1)", FULL).is("tear(0, 0, 264)", 255).is("repeat(1, 0, 1)", FULL)
            .is("count(6)", 7999).is("tear(1, 0, 10)", 1).is("repeat(1, 0, 1)", 2).is("count(6)", 7969);
        holes(due, 7936).is("strip(1, 3, 0, 32, 0)", 0).is("repeat(1, 0, 1)", 2).is("count(6)", 8000).is("repeat(1, 0, 1)", FULL);
    }

    // ---- move

    @Says("42: One by one, k from 0 to n - 1: BYTES of STRIP i + k of a ROLL come as a copy to STRIP j + k of another one (or the same) in place of those there: how many came")
    static void moveOneByOne(Due due) {
        levels(due, 5).isWith(0, "move(0, 1, 3, 0, 2)", 3).row("told(0, *, 3)", 0, 1, 1, 1, 1).is("count(6)", 4).is("whole(0)", 5);
        levels(due, 5).isWith(0, "move(0, 2, 3, 0, 1)", 3).row("told(0, *, 3)", 0, 2, 3, 4, 4).is("count(6)", 13);
        levels(due, 5).isWith(0, "move(0, 0, 5, 0, 0)", 5).row("told(0, *, 3)", 0, 1, 2, 3, 4).is("whole(0)", 5);
        Run r = levels(due, 8).is("cut(0, 4)", 2).isWith(0, "move(0, 3, 1, 2, 0)", 1).is("told(2, 0, 3)", 3).is("head(2, 0, 1)", 3);
        r.row("told(2, 0, *)", 1, 4, 1, 3).does("punch(2, 0, 0, 9)").is("byteOf(0, 3, 10)", 0).is("equal(0, 2)", 0);
        levels(due, 8).is("cut(0, 0)", 2).is("join(0, 2)", 8).isWith(0, "move(2, 0, 8, 0, 0)", 8).is("equal(0, 2)", 1);
        levels(due, 2).isWith(0, "move(0, 0, 0, 0, 0)", 0).isWith(0, "move(0, MAX, 0, 1, MIN)", 0);
    }

    @Says("42: BYTES .. come as a copy .. in place of those there: of 256 ELEMENTS to a STRIP of none, and back")
    static void moveLongAndShort(Due due) {
        for (int kind = 0; kind < 4; kind++) {
            Run r = new Run(due).does("roll()", "strip(0, " + kind + ", 1, 256, 0)", "strip(0, " + kind + ", 2, 0, 0)",
                "strip(0, " + kind + ", 3, 1, 0)", "punch(0, 0, 255, 77)");
            r.isWith(0, "move(0, 0, 1, 0, 1)", 1).is("read(0, 1)", 256).is("count(6)", 513).is("sum(0, 1)", r.ask("sum(0, 0)"));
            r.isWith(0, "move(0, 2, 1, 0, 0)", 1).is("read(0, 0)", 1).is("count(6)", 258).isWith(0, "move(0, 1, 1, 0, 2)", 1);
            r.is("read(0, 2)", 256).is("count(6)", 513).is("equal(0, 0)", 1).is("punch(0, 1, 255, 78)", 1).is("read(0, 2)", 256);
            r.is("tear(0, 2, 5)", 0).isWith(0, "move(0, 2, 1, 0, 1)", 1).is("read(0, 1)", TORN).is("byteOf(0, 1, 5)", TORN).is("count(6)", 1);
        }
    }

    @Says("42: It ends earlier, and status() tells why, at: TORN: one of both is not there (i, j are any numbers)")
    static void moveTorn(Due due) {
        levels(due, 4).isWith(2, "move(0, 2, 8, 0, 0)", 2).row("told(0, *, 3)", 2, 3, 2, 3);
        levels(due, 4).isWith(2, "move(0, 0, 8, 0, 3)", 1).row("told(0, *, 3)", 0, 1, 2, 0);
        levels(due, 4).isWith(0, "move(0, 0, 4, 0, 0)", 4).isWith(2, "move(0, 0, 5, 0, 0)", 4);
        Refused.areZero(due, Scenes::rest, 2, "move(0, -1, 1, 0, 0)", "move(0, 0, 1, 0, -1)", "move(0, 4, 1, 0, 0)",
            "move(0, 0, 1, 0, 4)", "move(0, MAX, 8, 0, 0)", "move(0, 0, 8, 0, MAX)", "move(0, MIN, 8, 0, MIN)", "move(0, -1, 8, 0, 0)",
            "move(2, 0, 1, 0, 0)", "move(0, 0, 1, 2, 0)", "move(0, MAX, 8, 0, MAX)");
    }

    @Says("42: TORN .. LOST: one is; KIND: unlike ones; FULL: the first of these")
    static void moveInOrder(Due due) {
        Refused.areZero(due, Scenes::rest, 2, "move(1, 3, 1, 0, 4)", "move(0, 4, 1, 1, 3)");
        Refused.areZero(due, Scenes::rest, 1, "move(1, 3, 1, 1, 0)", "move(1, 0, 1, 1, 3)", "move(1, 3, 1, 1, 3)",
            "move(1, 3, 1, 0, 0)", "move(0, 0, 1, 1, 3)", "move(1, 3, 1, 1, 4)");
        Refused.areZero(due, Scenes::rest, 5, "move(0, 0, 1, 0, 1)", "move(0, 1, 1, 0, 2)", "move(0, 2, 1, 0, 3)", "move(0, 3, 1, 0, 2)");
        Run r = new Run(due);
        Scenes.allElements(r);
        r.is("strip(1, 1, 0, 0, 0)", 0).isWith(5, "move(0, 0, 1, 1, 0)", 0).isWith(FULL, "move(0, 1, 1, 1, 0)", 0);
        r.is("lose(1, 0)", 1).isWith(1, "move(0, 1, 1, 1, 0)", 0).isWith(1, "move(0, 0, 1, 1, 0)", 0);
        r.isWith(2, "move(0, 0, 1, 1, 1)", 0);
    }

    @Says("42: It ends earlier .. at: LOST: one is; KIND: unlike ones: those ahead of it came")
    static void moveEndsAmid(Due due) {
        levels(due, 4).does("lose(0, 2)").isWith(1, "move(0, 1, 2, 0, 0)", 1).row("told(0, *, 3)", 1, 1, 0, 3);
        levels(due, 4).does("lose(0, 2)").isWith(1, "move(0, 0, 3, 0, 1)", 1).row("told(0, *, 3)", 0, 0, 0, 3);
        levels(due, 2).does("strip(0, 0, 0, 3, 0)", "join(1, 0)").isWith(5, "move(0, 1, 2, 1, 0)", 1).row("told(1, *, 3)", 1, 1, 3);
        Run r = new Run(due);
        Scenes.rest(r);
        r.isWith(1, "move(1, 1, 3, 1, 0)", 2).row("read(1, *)", SUM, TORN, TORN, LOST);
    }

    @Says("42: FULL: it would be too many ELEMENTS")
    static void moveFull(Due due) {
        Run r = holes(due, 7936).does("strip(1, 0, 0, 32, 0)", "strip(1, 0, 0, 31, 0)", "strip(1, 0, 0, 0, 0)", "strip(1, 0, 0, 0, 0)");
        r.is("count(6)", 7999).isWith(FULL, "move(1, 0, 1, 1, 2)", 0).is("count(6)", 7999).isWith(0, "move(1, 0, 1, 1, 1)", 1);
        r.is("count(6)", 8000).isWith(0, "move(0, 0, 1, 0, 5)", 1).isWith(0, "move(1, 0, 2, 1, 0)", 2);
        r.isWith(FULL, "move(0, 0, 1, 1, 0)", 0).is("told(1, 0, 3)", 32).isWith(0, "move(1, 2, 1, 1, 0)", 1).is("count(6)", 7968);
        r.isWith(FULL, "move(1, 1, 2, 1, 2)", 1).is("count(6)", 8000);
        Refused.areZero(due, s -> { Scenes.allElements(s); s.does("strip(1, 0, 0, 0, 0)"); }, FULL, "move(0, 0, 1, 1, 0)",
            "move(0, 31, 1, 1, 0)", "move(0, 0, 1, 0, 31)");
    }

    @Says("42: BAD: n is not 0 .. 8; BUSY")
    static void moveRefused(Due due) {
        Refused.are(due, Scenes::rest, BAD, "move(0, 0, -1, 0, 0)", "move(0, 0, 9, 0, 0)", "move(0, 0, MIN, 0, 0)",
            "move(0, 0, MAX, 0, 0)", "move(0, 99, 9, 0, 99)", "move(3, 0, 1, 0, 0)", "move(0, 0, 1, 3, 0)");
        Refused.are(due, Scenes::busy, BUSY, "move(0, 0, 0, 0, 0)", "move(0, MAX, 8, 0, 0)", "move(1, 3, 1, 1, 3)");
    }

    // ---- copy, transpose, fallen

    @Says("43: n ELEMENTS from place from on of a STRIP come as a copy to those from place at on of another one (or the same; as they were): n")
    static void copyAsTheyWere(Due due) {
        for (int kind = 0; kind < 4; kind++) {
            int width = kind == 0 ? 1 : kind == 3 ? 4 : 2;
            for (int[] one : new int[][] {{0, 1, 4}, {1, 0, 4}, {0, 0, 5}, {0, 2, 3}, {4, 0, 1}, {0, 4, 1}}) {
                Run r = new Run(due).does("roll()", "strip(0, " + kind + ", 0, 5, 0)");
                int[] want = {11, 12, 13, 14, 15};
                for (int k = 0; k < 5; k++) r.does("punch(0, 0, " + k + ", " + want[k] + ")");
                System.arraycopy(want.clone(), one[0], want, one[1], one[2]);
                r.isWith(0, "copy(0, 0, " + one[0] + ", " + one[2] + ", 0, 0, " + one[1] + ")", one[2]);
                for (int k = 0; k < 5; k++) r.is("byteOf(0, 0, " + (8 + (k + 1) * width) + ")", want[k]);
            }
        }
    }

    @Says("43: SPAN: they are not there (n 0: from, at may be right behind the last), or n is below 0")
    static void copySpan(Due due) {
        Run r = new Run(due).does("roll()", "strip(0, 3, 0, 4, 0)", "strip(0, 3, 0, 2, 0)", "strip(0, 3, 0, 0, 0)");
        r.is("copy(0, 0, 0, 2, 0, 1, 0)", 2).is("copy(0, 0, 2, 2, 0, 1, 0)", 2).is("copy(0, 1, 0, 2, 0, 0, 2)", 2);
        r.are(0, "copy(0, 0, 4, 0, 0, 1, 2)", "copy(0, 0, 0, 0, 0, 1, 0)", "copy(0, 2, 0, 0, 0, 1, 2)", "copy(0, 1, 2, 0, 0, 2, 0)");
        r.are(SPAN, "copy(0, 0, 3, 2, 0, 1, 0)", "copy(0, 0, 0, 2, 0, 1, 1)", "copy(0, 0, 0, 3, 0, 1, 0)", "copy(0, 1, 0, 3, 0, 0, 0)",
            "copy(0, 0, 5, 0, 0, 1, 0)", "copy(0, 0, 0, 0, 0, 1, 3)", "copy(0, 2, 1, 0, 0, 2, 0)", "copy(0, 2, 0, 1, 0, 0, 0)");
        Refused.are(due, Scenes::rest, SPAN, "copy(0, 1, 0, -1, 0, 1, 0)", "copy(0, 1, 0, MIN, 0, 1, 0)", "copy(0, 1, 4, -1, 0, 1, 4)",
            "copy(0, 1, -1, 1, 0, 1, 0)", "copy(0, 1, 0, 1, 0, 1, -1)", "copy(0, 1, -1, 0, 0, 1, 0)", "copy(0, 1, 0, 0, 0, 1, -1)",
            "copy(0, 1, 0, 5, 0, 1, 0)", "copy(0, 1, 1, 4, 0, 1, 0)", "copy(0, 1, 0, 4, 0, 1, 1)", "copy(0, 1, 4, 1, 0, 1, 0)",
            "copy(0, 1, 5, 0, 0, 1, 0)", "copy(0, 1, 0, 0, 0, 1, 5)");
    }

    @Says("43: SPAN: they are not there: numbers that wrap around")
    static void copyWraps(Due due) {
        for (int strip = 0; strip < 4; strip++) {
            String a = "copy(0, " + strip + ", ";
            String b = ", 0, " + strip + ", ";
            Refused.are(due, Scenes::rest, SPAN, a + "MAX, 1" + b + "0)", a + "0, 1" + b + "MAX)", a + "1, MAX" + b + "0)",
                a + "0, MAX" + b + "0)", a + "0, MAX" + b + "1)", a + "MAX, MAX" + b + "MAX)", a + "MIN, 1" + b + "0)",
                a + "0, 1" + b + "MIN)", a + "MIN, MIN" + b + "MIN)", a + "0, 1073741824" + b + "0)", a + "1073741824, 0" + b + "0)",
                a + "0, 0" + b + "1073741824)", a + "MAX, 0" + b + "0)", a + "1, 536870912" + b + "1)", a + "2, -2" + b + "2)");
        }
    }

    @Says("43: BAD, BUSY; LOST (the first, then the other one); KIND: unlike ones; SPAN: the first of these")
    static void copyInOrder(Due due) {
        Refused.are(due, Scenes::rest, BAD, "copy(1, 3, 0, 0, 1, 5, 0)", "copy(1, 5, 0, 0, 1, 3, 0)", "copy(0, 4, 0, -1, 0, 0, 0)");
        Refused.are(due, Scenes::rest, LOST, "copy(1, 3, 0, 0, 1, 0, 0)", "copy(1, 0, 0, 0, 1, 3, 0)", "copy(1, 3, 0, 0, 1, 4, 0)",
            "copy(1, 3, 0, -1, 0, 0, 0)", "copy(0, 0, -1, 0, 1, 3, 0)", "copy(0, 2, 0, 0, 1, 3, 0)", "copy(1, 4, 0, 0, 0, 1, 0)");
        Refused.are(due, Scenes::rest, KIND, "copy(0, 0, 0, 0, 0, 1, 0)", "copy(0, 1, 0, 0, 0, 2, 0)", "copy(0, 2, 0, 1, 0, 3, 0)",
            "copy(0, 0, 0, -1, 0, 1, 0)", "copy(0, 2, 99, 1, 0, 3, 99)", "copy(0, 3, 0, 1, 0, 2, 0)");
        Refused.are(due, Scenes::rest, SPAN, "copy(1, 2, 0, 1, 1, 0, 0)", "copy(1, 0, 0, 1, 1, 2, 0)", "copy(1, 2, 0, 1, 1, 2, 0)");
        new Run(due).does("roll()", "strip(0, 0, 0, 3, 0)", "tear(0, 0, 4)").is("copy(0, 0, 0, 0, 0, 0, 0)", 0);
    }

    @Says("43: KIND: unlike ones .. SPAN: they are not there: by THE LIST and the ELEMENTS, whatever HEADS tell")
    static void copyWhateverHeadsTell(Due due) {
        Run r = new Run(due).does("roll()").strip(1, 0, 1, 2, 3).strip(1, 0, 4, 5, 6).strip(0, 0, 7, 8, 9);
        r.does("damage(0, 0, 0, 1)", "damage(0, 1, 4, 3)").is("head(0, 0, 0)", 0).is("head(0, 1, 2)", 0);
        r.is("copy(0, 0, 0, 3, 0, 1, 0)", 3).is("byteOf(0, 1, 14)", 3).isWith(5, "copy(0, 0, 0, 1, 0, 2, 0)", KIND);
        r.isWith(5, "move(0, 0, 1, 0, 2)", 0).isWith(0, "move(0, 0, 1, 0, 1)", 1).is("read(0, 1)", KIND).does("seal(0, 0)", "tear(0, 0, 13)");
        r.is("head(0, 0, 2)", 3).is("copy(0, 0, 0, 3, 0, 1, 0)", SPAN).is("copy(0, 0, 0, 2, 0, 1, 1)", 2).is("copy(0, 1, 0, 1, 0, 0, 2)", SPAN);
    }

    @Says("43: (HEADS stay.)")
    static void copyHeadsStay(Due due) {
        Run r = levels(due, 4).does("punch(0, 3, 2, 77)");
        long[] head = new long[9];
        for (int i = 0; i < 9; i++) head[i] = r.ask("byteOf(0, 2, " + i + ")");
        r.is("copy(0, 3, 1, 2, 0, 2, 0)", 2).row("byteOf(0, 2, *)", head).is("read(0, 2)", SUM).is("byteOf(0, 2, 12)", 77);
        r.is("copy(0, 1, 0, 1, 0, 2, 1)", 1).is("read(0, 2)", 2).is("copy(0, 2, 0, 0, 0, 2, 0)", 0).is("read(0, 2)", 2).is("count(6)", 6);
    }

    @Says("44: All ELEMENTS of a STRIP of HOLES move n bits to the higher ones (below 0: to the lower ones); it is SEALED")
    static void transposeEach(Due due) {
        int[] rows = {0x00, 0x01, 0x80, 0xff, 0x81, 0x55};
        for (int n = -7; n <= 7; n++) {
            Run r = new Run(due).does("roll()").strip(0, 0, rows);
            int fall = 0;
            for (int k = 0; k < rows.length; k++) fall += Integer.bitCount(n < 0 ? rows[k] & (1 << -n) - 1 : rows[k] << n & 0x7f00);
            r.isWith(0, "transpose(0, 0, " + n + ")", fall).is("count(5)", fall).is("read(0, 0)", 6);
            for (int k = 0; k < rows.length; k++) {
                r.is("byteOf(0, 0, " + (9 + k) + ")", (n < 0 ? rows[k] >> -n : rows[k] << n) & 255);
            }
        }
        new Run(due).does("roll()", "strip(0, 0, 0, 0, 0)").is("transpose(0, 0, 7)", 0).is("read(0, 0)", 0);
    }

    @Says("44: All ELEMENTS of a STRIP: what was torn off is none of them")
    static void transposeTorn(Due due) {
        Run r = new Run(due).does("roll()").strip(0, 0, 255, 255, 255).does("tear(0, 0, 10)", "seal(0, 0)");
        r.is("transpose(0, 0, 7)", 7).is("count(5)", 7).is("fallen(6, 0)", 0).is("fallen(7, 0)", NONE).is("read(0, 0)", 1);
        r.does("tear(0, 0, 9)", "seal(0, 0)").is("transpose(0, 0, 7)", 0).is("count(5)", 0).is("read(0, 0)", 0);
    }

    @Says("44: it is SEALED")
    static void transposeSeals(Due due) {
        Run r = new Run(due).does("roll()", "strip(0, 0, 3, 1, 0)", "strip(0, 0, 8, 1, 0)", "move(0, 0, 1, 0, 1)");
        r.is("head(0, 1, 1)", 3).is("transpose(0, 1, 0)", 0).row("head(0, 1, *)", 0, 8, 1, r.ask("sum(0, 1)"));
    }

    @Says("44: What falls off is FALLEN, ELEMENT by ELEMENT, by TRACKS, in place of what was: how many")
    static void transposeFallen(Due due) {
        Run r = new Run(due).does("roll()").strip(0, 0, 0x81, 0, 0xff).strip(0, 0).strip(0, 0, 3).is("transpose(0, 0, 2)", 3);
        r.row("fallen(*, 0)", 0, 2, 2, NONE).row("fallen(*, 1)", 7, 6, 7, NONE).is("transpose(0, 2, -1)", 1);
        r.row("fallen(*, 0)", 0, NONE).row("fallen(*, 1)", 0, NONE).is("count(5)", 1).is("transpose(0, 2, 0)", 0).is("count(5)", 0);
        r.is("fallen(0, 0)", NONE).is("transpose(0, 2, -1)", 1).is("transpose(0, 1, 7)", 0).is("count(5)", 0);
    }

    @Says("44: how many: 7 of each of 256 ELEMENTS at most")
    static void transposeMost(Due due) {
        Run r = new Run(due).does("roll()", "strip(0, 0, 0, 256, 0)");
        for (int k = 0; k < 256; k++) r.does("punch(0, 0, " + k + ", 255)");
        r.is("transpose(0, 0, 7)", 1792).is("count(5)", 1792).is("fallen(0, 0)", 0).is("fallen(0, 1)", 1).is("fallen(1791, 0)", 255);
        r.is("fallen(1791, 1)", 7).is("fallen(1792, 0)", NONE).is("byteOf(0, 0, 9)", 128).is("byteOf(0, 0, 264)", 128);
        r.is("transpose(0, 0, -7)", 0).is("byteOf(0, 0, 264)", 1);
    }

    @Says("44: BAD: n is not -7 .. 7; BUSY; KIND: no HOLES; its FINDING: the first of these")
    static void transposeRefused(Due due) {
        Refused.are(due, Scenes::rest, BAD, "transpose(1, 0, -8)", "transpose(1, 0, 8)", "transpose(1, 0, MIN)", "transpose(1, 0, MAX)",
            "transpose(0, 0, 8)", "transpose(1, 3, -8)", "transpose(1, 5, 0)");
        Refused.are(due, Scenes::busy, BAD, "transpose(1, 0, 8)");
        Refused.are(due, Scenes::rest, KIND, "transpose(0, 0, 0)", "transpose(0, 2, 7)", "transpose(0, 3, -7)", "transpose(1, 4, 0)");
        Refused.are(due, Scenes::rest, SUM, "transpose(1, 1, 0)", "transpose(1, 1, 7)");
        Refused.are(due, Scenes::rest, TORN, "transpose(1, 2, 0)");
        Refused.are(due, Scenes::rest, LOST, "transpose(1, 3, 0)");
    }

    @Says("45: Of what is FALLEN the k-th: what = 0 its ELEMENT, 1 its TRACK (as it was). NONE. BAD: what, k below 0")
    static void fallenFirstAndLast(Due due) {
        new Run(due).isWith(0, "fallen(0, 0)", NONE).is("fallen(0, 2)", BAD);
        Run r = new Run(due).does("roll()").strip(0, 0, 0, 0x05).is("transpose(0, 0, -3)", 2).row("fallen(*, 0)", 1, 1, NONE);
        r.row("fallen(*, 1)", 0, 2, NONE).isWith(0, "fallen(MAX, 1)", NONE);
        Refused.are(due, Scenes::rest, BAD, "fallen(-1, 0)", "fallen(MIN, 1)", "fallen(0, -1)", "fallen(0, 2)", "fallen(0, MIN)",
            "fallen(0, MAX)", "fallen(99, 2)", "fallen(-1, 2)");
        Refused.are(due, Scenes::rest, NONE, "fallen(2, 0)", "fallen(99, 1)", "fallen(MAX, 0)");
    }

    // ---- mend, equal, digest

    /** ROLL 0 has LEVELS of NUMBER 5, not WHOLE; ROLL 1 has HOLES of 5, LEVELS of 4, of 5 (not WHOLE), of 5, of 5. */
    private static Run toMend(Due due) {
        return new Run(due).does("roll()", "roll()", "strip(0, 1, 5, 2, 1)", "damage(0, 0, 8, 1)", "strip(1, 0, 5, 1, 1)",
            "strip(1, 1, 4, 1, 1)", "strip(1, 1, 5, 3, 1)", "damage(1, 2, 8, 1)", "strip(1, 1, 5, 4, 9)", "strip(1, 1, 5, 6, 1)");
    }

    @Says("46: A STRIP gets a copy of the BYTES of the first STRIP of another ROLL (or the same) that is of its KIND and NUMBER and WHOLE: that one's place")
    static void mendByTheFirst(Due due) {
        Run r = toMend(due).isWith(0, "mend(0, 0, 1)", 3).is("read(0, 0)", 4).row("told(0, 0, *)", 1, 5, 1, 4).is("count(6)", 19);
        r.does("punch(0, 0, 0, 7)").is("byteOf(1, 3, 10)", 0).is("mend(1, 2, 1)", 3).is("read(1, 2)", 4);
        toMend(due).does("lose(0, 0)").is("mend(0, 0, 1)", 3).is("read(0, 0)", 4).is("count(6)", 19);
        toMend(due).does("tear(0, 0, 0)").is("mend(0, 0, 1)", 3).is("read(0, 0)", 4);
        toMend(due).does("seal(1, 2)").is("mend(0, 0, 1)", 2).is("read(0, 0)", 3);
        toMend(due).does("lose(1, 3)").is("mend(0, 0, 1)", 4).is("read(0, 0)", 6);
    }

    @Says("46: A STRIP gets a copy of the BYTES: of 256 ELEMENTS, of none, of each KIND")
    static void mendLongAndShort(Due due) {
        for (int kind = 0; kind < 4; kind++) {
            for (int n : new int[] {0, 1, 256}) {
                for (int had : new int[] {0, 1, 256}) {
                    Run r = new Run(due).does("roll()", "strip(0, " + kind + ", 1, " + had + ", 0)", "damage(0, 0, 8, 1)");
                    r.does("strip(0, " + kind + ", 1, " + n + ", 0)", "punch(0, 1, " + (n - 1) + ", 77)").isWith(0, "mend(0, 0, 0)", 1);
                    r.is("read(0, 0)", n).is("count(6)", 2 * n).is("sum(0, 0)", r.ask("sum(0, 1)"));
                }
            }
        }
    }

    @Says("46: NONE: there is none")
    static void mendByNone(Due due) {
        toMend(due).isWith(0, "mend(0, 0, 0)", NONE).is("read(0, 0)", SUM).does("lose(1, 3)", "tear(1, 4, 9)")
            .isWith(0, "mend(0, 0, 1)", NONE).is("roll()", 2).isWith(0, "mend(0, 0, 2)", NONE).does("seal(1, 4)").is("mend(0, 0, 1)", 4)
            .is("read(0, 0)", 0);
        Refused.are(due, Scenes::rest, NONE, "mend(1, 1, 0)", "mend(1, 1, 1)", "mend(1, 2, 2)", "mend(1, 3, 1)", "mend(1, 4, 0)");
    }

    @Says("46: FULL: too many ELEMENTS")
    static void mendFull(Due due) {
        Run r = holes(due, 7936).does("strip(1, 1, 5, 32, 0)", "strip(1, 1, 5, 31, 0)", "damage(1, 1, 8, 1)", "strip(1, 1, 5, 1, 0)");
        r.is("count(6)", 8000).isWith(FULL, "mend(1, 1, 1)", FULL).is("read(1, 1)", SUM).is("tear(1, 2, 9)", 0).is("count(6)", 7999);
        r.isWith(0, "mend(1, 1, 1)", 0).is("count(6)", 8000).is("read(1, 1)", 32).isWith(FULL, "mend(1, 2, 1)", FULL);
        Refused.are(due, s -> { Scenes.allElements(s); s.does("strip(1, 0, 31, 0, 0)", "lose(1, 0)"); }, FULL, "mend(1, 0, 0)");
    }

    @Says("46: It stays as it is, if it is WHOLE itself: its own place. BAD, BUSY")
    static void mendWhole(Due due) {
        Run r = toMend(due).isWith(0, "mend(1, 4, 1)", 4).is("told(1, 4, 3)", 6).is("mend(1, 0, 0)", 0).is("mend(1, 4, 0)", 4);
        r.is("roll()", 2).isWith(0, "mend(1, 3, 2)", 3).is("count(6)", 17);
        Run full = new Run(due);
        Scenes.allElements(full);
        full.is("mend(0, 31, 0)", 31).is("mend(0, 30, 1)", 30).is("count(6)", 8000);
        Refused.are(due, Scenes::rest, BAD, "mend(0, 0, 3)", "mend(0, 4, 0)", "mend(3, 0, 0)", "mend(1, 3, -1)");
        Refused.are(due, Scenes::busy, BUSY, "mend(0, 0, 0)", "mend(1, 3, 1)");
    }

    @Says("47: Whether two ROLLS have as many STRIPS, of the same KINDS, NUMBERS, TICKS and BYTES, in order (LOST where the other is): 1, 0")
    static void equalOrNot(Due due) {
        new Run(due).does("roll()", "roll()").is("equal(0, 1)", 1).is("equal(0, 0)", 1).is("equal(0, 2)", BAD).is("equal(-1, 0)", BAD);
        String[] first = {"strip(0, 0, 5, 1, 2)", "strip(0, 1, 6, 2, 3)"};
        String[][] unlike = {{"strip(1, 1, 5, 1, 2)", ""}, {"strip(1, 0, 4, 1, 2)", ""}, {"strip(1, 0, 5, 1, 1)", ""},
            {"strip(1, 0, 5, 0, 2)", ""}, {"strip(1, 0, 5, 2, 2)", ""}, {"strip(1, 0, 5, 1, 2)", "damage(1, 0, 0, 1)"},
            {"strip(1, 0, 5, 1, 2)", "damage(1, 0, 9, 128)"}, {"strip(1, 0, 5, 1, 2)", "tear(1, 0, 9)"},
            {"strip(1, 0, 5, 1, 2)", "lose(1, 0)"}, {"strip(1, 0, 5, 1, 2)", "strip(1, 0, 0, 0, 0)"}};
        for (String[] other : unlike) {
            Run r = new Run(due).does("roll()", "roll()").does(first).does(other[0], "strip(1, 1, 6, 2, 3)");
            if (!other[1].isEmpty()) r.is("equal(0, 1)", 1).does(other[1]);
            r.isWith(0, "equal(0, 1)", 0).isWith(0, "equal(1, 0)", 0).isWith(0, "equal(1, 1)", 1);
        }
        new Run(due).does("roll()", "roll()").does(first).does("strip(1, 1, 6, 2, 3)", "strip(1, 0, 5, 1, 2)").is("equal(0, 1)", 0);
        new Run(due).does("roll()", "roll()").does(first).does("strip(1, 0, 5, 1, 2)", "strip(1, 1, 6, 2, 3)", "lose(1, 1)")
            .is("equal(0, 1)", 0).does("tear(0, 1, 0)").is("equal(0, 1)", 0).is("equal(1, 0)", 0).does("lose(0, 1)").is("equal(0, 1)", 1);
    }

    @Says("47: the same KINDS, NUMBERS, TICKS: of LOST ones, too")
    static void equalOfLost(Due due) {
        String[] others = {"strip(1, 1, 5, 0, 2)", "strip(1, 0, 4, 0, 2)", "strip(1, 0, 5, 0, 1)", "strip(1, 0, 5, 9, 2)"};
        for (int i = 0; i < 4; i++) {
            new Run(due).does("roll()", "roll()", "strip(0, 0, 5, 0, 2)", others[i], "lose(0, 0)", "lose(1, 0)")
                .is("equal(0, 1)", i == 3 ? 1 : 0);
        }
        new Run(due).does("roll()", "roll()", "strip(0, 0, 0, 8, 0)", "strip(1, 0, 0, 8, 0)", "punch(0, 0, 7, 1)", "tear(0, 0, 3)",
            "tear(1, 0, 3)").is("equal(0, 1)", 1);
    }

    @Says("48: s is 7; for each STRIP: s is s * 31 + KIND, then likewise NUMBER, TICKS, each BYTE (with sign); 32 bits. BAD")
    static void digestWraps(Due due) {
        Run r = new Run(due).does("roll()").isWith(0, "digest(0)", 7).isWith(BAD, "digest(1)", 0).isWith(BAD, "digest(-1)", 0);
        r.does("strip(0, 3, 30000, 0, 256)", "lose(0, 0)");
        int s = ((7 * 31 + 3) * 31 + 30000) * 31 + 256;
        r.is("digest(0)", s).does("strip(0, 2, 300, 2, 5)", "punch(0, 1, 0, 65535)", "punch(0, 1, 1, 32640)");
        s = ((s * 31 + 2) * 31 + 300) * 31 + 5;
        for (int i = 0; i < 13; i++) s = s * 31 + (byte) r.ask("byteOf(0, 1, " + i + ")");
        r.is("digest(0)", s).does("tear(0, 1, 0)");
        s = ((((7 * 31 + 3) * 31 + 30000) * 31 + 256) * 31 + 2) * 31 + 300;
        r.isWith(0, "digest(0)", s * 31 + 5).does("lose(0, 1)").is("digest(0)", s * 31 + 5);
    }
}
