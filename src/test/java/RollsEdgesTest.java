/** Section 2 and promises 1 to 15 at their edges. */
public final class RollsEdgesTest {
    private static final int BAD = Run.BAD, FULL = Run.FULL, NONE = Run.NONE;
    private static final int LOST = Run.LOST, TORN = Run.TORN, SIZE = Run.SIZE, KIND = Run.KIND;
    private static final int LONG = Run.LONG, SHORT = Run.SHORT, SUM = Run.SUM;
    private static final int[] WIDTHS = {1, 2, 2, 4};

    public static void main(String[] args) {
        Due.runAll(RollsEdgesTest.class);
    }

    private static Run withRoll(Due due) {
        return new Run(due).is("roll()", 0);
    }

    /** A ROLL with one STRIP of this KIND, NUMBER 5, with so many ELEMENTS. */
    private static Run withStrip(Due due, int kind, int n) {
        return withRoll(due).is("strip(0, " + kind + ", 5, " + n + ", 1)", 0);
    }

    /** The BYTE becomes this one. */
    private static void write(Run r, int i, int wanted) {
        r.is("damage(0, 0, " + i + ", " + (r.ask("byteOf(0, 0, " + i + ")") ^ wanted) + ")", wanted);
    }

    private static void writeLength(Run r, int length) {
        write(r, 3, length >> 8 & 255);
        write(r, 4, length & 255);
    }

    /** ITS SUM, by the document's words and the bytes as they are told. */
    private static long sumByBytes(Run r, int length) {
        int s = 1;
        for (int i = 0; i < length; i++) {
            if (i < 5 || i > 8) s = s * 31 + (byte) r.ask("byteOf(0, 0, " + i + ")");
        }
        return s;
    }

    private static void writeSum(Run r, int sum) {
        for (int i = 5; i < 9; i++) write(r, i, sum >> 8 * (8 - i) & 255);
    }

    // ---- section 2

    @Says("section 2: ROLLS (20 at most)")
    static void twentyRolls(Due due) {
        Run r = new Run(due);
        for (int i = 0; i < 20; i++) r.is("roll()", i);
        r.isWith(FULL, "roll()", FULL).is("count(0)", 20).is("strips(19)", 0).is("strips(20)", BAD);
    }

    @Says("section 2: rows of STRIPS (400 at most in all ROLLS together)")
    static void fourHundredStrips(Due due) {
        Run r = withRoll(due).is("roll()", 1).is("roll()", 2);
        for (int s = 0; s < 8; s++) r.is("strip(" + s % 2 + ", 0, 0, 0, 0)", s / 2);
        for (int n = 8; n < 392; n += 4) r.does("repeat(" + n / 4 % 2 + ", 0, 4)");
        for (int n = 392; n < 399; n++) r.is("strip(2, 0, 0, 0, 0)", n - 392);
        r.is("lose(2, 0)", 1).is("tear(2, 1, 0)", 0).is("cut(2, 5)", 3).is("strips(0)", 196).is("strips(1)", 196);
        r.is("strip(3, 0, 0, 0, 0)", 2).isWith(FULL, "strip(3, 0, 0, 0, 0)", FULL).is("strip(2, 0, 0, 0, 0)", FULL);
        r.is("strips(3)", 3).is("lose(3, 2)", 1).is("strip(0, 0, 0, 0, 0)", FULL);
    }

    @Says("section 2: both numbered from 0 on")
    static void numberedFromZero(Due due) {
        Run r = new Run(due).are(BAD, "strips(0)", "strips(-1)").is("roll()", 0).is("roll()", 1);
        r.is("strip(1, 0, 0, 0, 0)", 0).is("strip(1, 0, 0, 0, 0)", 1).is("strip(0, 0, 0, 0, 0)", 0);
        r.are(BAD, "read(0, -1)", "read(0, 1)", "read(1, 2)", "read(2, 0)", "read(-1, 0)");
    }

    @Says("section 2: its KIND (0 HOLES, 1 LEVELS, 2 STOPS, 3 TEMPO), its NUMBER (0 .. 30000), its TICKS (0 .. 256), for good")
    static void theListStays(Due due) {
        Run r = withRoll(due).is("strip(0, 3, 30000, 2, 256)", 0).is("strip(0, 3, 0, 1, 0)", 1);
        String[] acts = {"punch(0, 0, 0, -1)", "damage(0, 0, 0, 255)", "damage(0, 0, 1, 255)", "seal(0, 0)",
            "damage(0, 0, 2, 255)", "tear(0, 0, 1)", "tear(0, 0, 0)", "seal(0, 0)", "move(0, 1, 1, 0, 0)", "lose(0, 0)",
            "roll()", "join(1, 0)", "cut(0, 0)"};
        for (String act : acts) {
            r.does(act);
            String of = act.startsWith("cut") ? "2" : "0";
            r.is("told(" + of + ", 0, 0)", 3).is("told(" + of + ", 0, 1)", 30000).is("told(" + of + ", 0, 2)", 256);
        }
        r.row("told(1, 0, *)", 3, 30000, 256, 0).row("told(1, 1, *)", 3, 0, 0, 1);
    }

    @Says("section 2: a HEAD of 9: kind (byte 0), number (1, 2), length (3, 4), sum (5 to 8), the highest byte first")
    static void bytesOfTheHead(Due due) {
        Run r = withRoll(due).is("strip(0, 2, 4660, 256, 0)", 0);
        r.row("byteOf(0, 0, *)", 2, 0x12, 0x34, 1, 0);
        int sum = (int) r.ask("sum(0, 0)");
        for (int i = 5; i < 9; i++) r.is("byteOf(0, 0, " + i + ")", sum >> 8 * (8 - i) & 255);
        r.row("head(0, 0, *)", 2, 0x1234, 256, sum);
    }

    @Says("section 2: a HEAD of 9: .. all with sign")
    static void headsHaveSign(Due due) {
        Run r = withStrip(due, 0, 1);
        for (int i = 0; i < 9; i++) write(r, i, 255);
        r.row("head(0, 0, *)", -1, -1, -1, -1);
        for (int i : new int[] {0, 1, 3, 5}) write(r, i, 127);
        r.row("head(0, 0, *)", 127, 32767, 32767, Integer.MAX_VALUE);
        for (int i : new int[] {0, 1, 3, 5}) write(r, i, 128);
        for (int i : new int[] {2, 4, 6, 7, 8}) write(r, i, 0);
        r.row("head(0, 0, *)", -128, -32768, -32768, Integer.MIN_VALUE);
    }

    @Says("section 2: then its ROW of 0 to 256 ELEMENTS of its KIND: bytes, shorts, chars (no sign), ints, of each its bytes, the highest first")
    static void rowsOfEachKind(Due due) {
        for (int kind = 0; kind < 4; kind++) {
            for (int n : new int[] {0, 1, 256}) {
                Run r = withStrip(due, kind, n).is("told(0, 0, 3)", n).is("read(0, 0)", n);
                int length = 9 + n * WIDTHS[kind];
                r.is("byteOf(0, 0, " + length + ")", TORN);
                if (n > 0) r.is("byteOf(0, 0, " + (length - 1) + ")", 0);
                if (n > 0) r.is("punch(0, 0, " + (n - 1) + ", 16909060)", 1);
                for (int b = 0; n > 0 && b < WIDTHS[kind]; b++) {
                    r.is("byteOf(0, 0, " + (length - 1 - b) + ")", 4 - b);
                }
                if (n > 1) r.is("byteOf(0, 0, " + (length - 1 - WIDTHS[kind]) + ")", 0);
            }
        }
    }

    @Says("section 2: All ROWS together have 8000 ELEMENTS at most")
    static void eightThousandElements(Due due) {
        Run r = withRoll(due).is("roll()", 1);
        for (int s = 0; s < 31; s++) r.is("strip(" + s % 2 + ", " + s % 4 + ", 0, 256, 0)", s / 2);
        r.is("count(6)", 7936).are(FULL, "strip(0, 3, 0, 65, 0)", "strip(0, 0, 0, 256, 0)");
        r.is("strip(0, 3, 0, 63, 0)", 16).is("count(6)", 7999).is("strip(1, 0, 0, 2, 0)", FULL);
        r.is("strip(1, 0, 0, 1, 0)", 15).is("count(6)", 8000).isWith(FULL, "strip(1, 0, 0, 1, 0)", FULL);
        r.is("strip(1, 0, 0, 0, 0)", 16).is("count(6)", 8000);
    }

    @Says("section 2: All ROWS together have 8000 ELEMENTS: those that are lost or torn off are there no more")
    static void roomAgain(Due due) {
        Run r = new Run(due);
        Scenes.allElements(r);
        r.is("strip(1, 0, 0, 1, 0)", FULL).is("tear(0, 3, 1032)", 255).is("count(6)", 7999);
        r.is("strip(1, 0, 0, 2, 0)", FULL).is("strip(1, 0, 0, 1, 0)", 0).is("count(6)", 8000);
        r.is("lose(0, 31)", 1).is("count(6)", 7936).is("lose(0, 31)", 0).is("count(6)", 7936);
        r.is("strip(1, 3, 0, 65, 0)", FULL).is("strip(1, 3, 0, 64, 0)", 1).is("tear(0, 0, 8)", 0).is("count(6)", 7744);
        r.is("tear(0, 0, 0)", 0).is("lose(0, 0)", 1).is("count(6)", 7744).is("strip(1, 3, 0, 256, 0)", 2);
        r.is("count(6)", 8000).is("strip(1, 3, 0, 1, 0)", FULL);
    }

    @Says("section 2: ITS SUM: s is 1; for each byte b (with sign) of the HEAD but the sum's, then of the ROW: s is s * 31 + b; 32 bits")
    static void sumWraps(Due due) {
        Run r = withStrip(due, 0, 0);
        int head = ((((31 + 0) * 31 + 0) * 31 + 5) * 31 + 0) * 31;
        r.is("sum(0, 0)", head).is("head(0, 0, 3)", head);
        for (int i = 5; i < 9; i++) r.does("damage(0, 0, " + i + ", 85)");
        r.is("sum(0, 0)", head);
        r = withStrip(due, 0, 3);
        r.does("punch(0, 0, 0, 127)", "punch(0, 0, 1, 128)", "punch(0, 0, 2, 255)");
        int s = ((((31 * 31 * 31 + 5) * 31) * 31 + 3) * 31 + 127) * 31;
        r.is("sum(0, 0)", (s - 128) * 31 - 1).is("head(0, 0, 3)", (s - 128) * 31 - 1);
        r.is("read(0, 0)", 3);
        for (int kind = 0; kind < 4; kind++) {
            r = withStrip(due, kind, 20);
            for (int k = 0; k < 20; k++) r.does("punch(0, 0, " + k + ", " + (k * 0x13572468 - 77) + ")");
            r.is("sum(0, 0)", sumByBytes(r, 9 + 20 * WIDTHS[kind])).is("read(0, 0)", 20);
        }
    }

    @Says("section 2: SEALED it is when its HEAD is anew: its KIND, its NUMBER, how many ELEMENTS it has, ITS SUM")
    static void sealedIsAllAnew(Due due) {
        for (int i = 0; i < 9; i++) {
            Run r = withStrip(due, 2, 3);
            long sum = r.ask("head(0, 0, 3)");
            r.does("damage(0, 0, " + i + ", 129)").is("seal(0, 0)", 3).row("head(0, 0, *)", 2, 5, 3, sum);
        }
        Run r = withStrip(due, 2, 3).is("damage(0, 0, 14, 9)", 9).is("tear(0, 0, 14)", 2).is("seal(0, 0)", 2);
        r.row("head(0, 0, *)", 2, 5, 2, sumByBytes(r, 13));
    }

    @Says("section 2: TO READ a STRIP: LOST: it is")
    static void readLost(Due due) {
        withStrip(due, 0, 2).is("lose(0, 0)", 1).isWith(1, "read(0, 0)", LOST).is("whole(0)", 0).is("finding(0, 0)", 0);
    }

    @Says("section 2: TORN: its HEAD has not nine bytes")
    static void readTorn(Due due) {
        for (int kind = 0; kind < 4; kind++) {
            withStrip(due, kind, 0).is("tear(0, 0, 9)", 0).is("read(0, 0)", 0).is("tear(0, 0, 8)", 0)
                .isWith(2, "read(0, 0)", TORN).is("tear(0, 0, 0)", 0).is("read(0, 0)", TORN);
            withStrip(due, kind, 2).is("tear(0, 0, 9)", 0).is("read(0, 0)", LONG).is("tear(0, 0, 8)", 0).is("read(0, 0)", TORN);
        }
    }

    @Says("section 2: KIND: its HEAD tells another kind than its own")
    static void readKind(Due due) {
        for (int kind = 0; kind < 4; kind++) {
            Run r = withStrip(due, kind, 2);
            for (int told : new int[] {0, 1, 2, 3, 4, 127, 128, 255, kind}) {
                write(r, 0, told);
                r.is("read(0, 0)", told == kind ? 2 : KIND);
            }
        }
        Run r = withStrip(due, 0, 2);
        write(r, 0, 1);
        writeSum(r, (int) r.ask("sum(0, 0)"));
        r.isWith(5, "read(0, 0)", KIND);
    }

    @Says("section 2: LONG: a length above how many ELEMENTS it has")
    static void readLong(Due due) {
        for (int n : new int[] {0, 2, 255, 256}) {
            Run r = withStrip(due, 1, n);
            for (int told : new int[] {n + 1, 32767}) {
                writeLength(r, told);
                writeSum(r, (int) r.ask("sum(0, 0)"));
                r.isWith(7, "read(0, 0)", LONG);
            }
            writeLength(r, n);
            writeSum(r, (int) r.ask("sum(0, 0)"));
            r.is("read(0, 0)", n);
        }
    }

    @Says("section 2: Then a row of that length is made: SIZE: it is below 0")
    static void readSize(Due due) {
        for (int n : new int[] {0, 2, 256}) {
            Run r = withStrip(due, 3, n);
            for (int told : new int[] {-1, -32768, -256}) {
                writeLength(r, told);
                writeSum(r, (int) r.ask("sum(0, 0)"));
                r.isWith(3, "read(0, 0)", SIZE);
            }
        }
    }

    @Says("section 2: SHORT: a length below how many it has")
    static void readShort(Due due) {
        for (int n : new int[] {1, 2, 256}) {
            Run r = withStrip(due, 0, n);
            for (int told : new int[] {n - 1, 0}) {
                writeLength(r, told);
                writeSum(r, (int) r.ask("sum(0, 0)"));
                r.isWith(8, "read(0, 0)", SHORT);
            }
        }
    }

    @Says("section 2: SUM: the sum told is not ITS SUM")
    static void readSum(Due due) {
        for (int bit = 0; bit < 32; bit++) {
            String flip = "damage(0, 0, " + (8 - bit / 8) + ", " + (1 << bit % 8) + ")";
            withStrip(due, 0, 2).does(flip).isWith(9, "read(0, 0)", SUM).does(flip).is("read(0, 0)", 2);
        }
        for (int i : new int[] {1, 2, 9, 10}) {
            withStrip(due, 0, 2).does("damage(0, 0, " + i + ", 1)").is("read(0, 0)", SUM);
        }
    }

    @Says("section 2: Otherwise it is WHOLE: the number that its HEAD tells is not looked at")
    static void readWhole(Due due) {
        Run r = withStrip(due, 0, 2);
        write(r, 1, 255);
        write(r, 2, 255);
        writeSum(r, (int) r.ask("sum(0, 0)"));
        r.is("head(0, 0, 1)", -1).isWith(0, "read(0, 0)", 2).is("whole(0)", 1);
    }

    @Says("section 2: TO READ: LOST, TORN, KIND, LONG, SIZE, SHORT, SUM: the first that is met")
    static void readingInOrder(Due due) {
        Run r = withStrip(due, 0, 2);
        write(r, 9, 1);
        r.is("read(0, 0)", SUM);
        writeLength(r, 1);
        r.is("read(0, 0)", SHORT);
        writeLength(r, -1);
        r.is("read(0, 0)", SIZE);
        writeLength(r, 3);
        r.is("read(0, 0)", LONG);
        write(r, 0, 1);
        r.is("read(0, 0)", KIND);
        writeLength(r, 1);
        r.is("read(0, 0)", KIND);
        writeLength(r, -1);
        r.is("read(0, 0)", KIND);
        r.is("tear(0, 0, 8)", 0).is("read(0, 0)", TORN).is("lose(0, 0)", 1).is("read(0, 0)", LOST);
    }

    // ---- promises

    @Says("1: Nothing is there; BASE is 440.0")
    static void newObject(Due due) {
        Run r = new Run(due).is("status()", 0).row("count(*)", 0, 0, 0, 0, 0, 0, 0, 0);
        r.row("trace(*)", new long[17]).row("at(*)", 0, 0, 0, 0, NONE, 0, 0, 0, 0).row("level(*)", new long[8]);
        r.row("stop(*)", new long[16]).row("open(*)", NONE, NONE, NONE, NONE, NONE, NONE, NONE, NONE);
        r.is("instrument(0)", 0).is("frequency(0)", Double.doubleToLongBits(440.0)).is("times(0, 0)", 0);
        r.is("spoil(0, 0)", 0).is("roll()", 0).is("chest(0, 0)", 0);
    }

    @Says("1: A new object: Nothing is there, whatever another object has")
    static void newBesideAnother(Due due) {
        Run other = new Run(due);
        Run r = new Run(due);
        Scenes.busy(other);
        Run later = new Run(due);
        for (Run one : new Run[] {r, later}) {
            one.row("count(*)", 0, 0, 0, 0, 0, 0, 0, 0).row("trace(*)", new long[17]).is("at(7)", 0).is("status()", 0);
            one.is("roll()", 0).is("instrument(0)", 0).is("frequency(0)", Double.doubleToLongBits(440.0));
        }
        other.is("count(0)", 3);
    }

    @Says("2: A ROLL without STRIPS: its number. BUSY, FULL")
    static void rollIsFull(Due due) {
        Refused.are(due, Scenes::twentyRolls, FULL, "roll()");
        Refused.are(due, Scenes::busy, Run.BUSY, "roll()");
        Run r = withRoll(due).is("strips(0)", 0).is("whole(0)", 0).is("finding(0, 0)", NONE).is("digest(0)", 7);
        for (int i = 1; i < 19; i++) r.is("cut(0, 0)", i);
        r.is("roll()", 19).is("roll()", FULL);
    }

    @Says("3: A STRIP comes behind a ROLL's: n ELEMENTS of 0, SEALED: its place")
    static void stripIsSealed(Due due) {
        for (int kind = 0; kind < 4; kind++) {
            for (int n : new int[] {0, 1, 256}) {
                Run r = withRoll(due).is("strip(0, " + kind + ", 30000, " + n + ", 0)", 0).is("read(0, 0)", n);
                r.row("head(0, 0, *)", kind, 30000, n, r.ask("sum(0, 0)"));
                for (int i = 9; i < Math.min(9 + n * WIDTHS[kind], 40); i++) r.is("byteOf(0, 0, " + i + ")", 0);
                r.is("strip(0, 0, 0, 0, 256)", 1).is("strip(0, 0, 0, 0, 0)", 2).is("strips(0)", 3);
            }
        }
    }

    @Says("3: BAD: kind, number, ticks, n above 256")
    static void stripBadNumbers(Due due) {
        withRoll(due).is("strip(0, 0, 0, 0, 0)", 0).is("strip(0, 3, 30000, 256, 256)", 1);
        Refused.are(due, Scenes::rest, BAD, "strip(0, -1, 0, 0, 0)", "strip(0, 4, 0, 0, 0)", "strip(0, MIN, 0, 0, 0)",
            "strip(0, MAX, 0, 0, 0)", "strip(0, 0, -1, 0, 0)", "strip(0, 0, 30001, 0, 0)", "strip(0, 0, MIN, 0, 0)",
            "strip(0, 0, MAX, 0, 0)", "strip(0, 0, 0, 0, -1)", "strip(0, 0, 0, 0, 257)", "strip(0, 0, 0, 0, MIN)",
            "strip(0, 0, 0, 0, MAX)", "strip(0, 0, 0, 257, 0)", "strip(0, 0, 0, MAX, 0)");
    }

    @Says("3: BAD: kind, number, ticks ..; SIZE: BAD comes first")
    static void stripBadAheadOfSize(Due due) {
        Refused.are(due, Scenes::rest, BAD, "strip(3, 0, 0, -1, 0)", "strip(0, 4, 0, -1, 0)", "strip(0, 0, 30001, -1, 0)",
            "strip(0, 0, 0, -1, 257)", "strip(-1, 0, 0, MIN, 0)");
    }

    @Says("3: BAD ..; FULL: BAD comes first")
    static void stripBadAheadOfFull(Due due) {
        Refused.are(due, Scenes::allStrips, BAD, "strip(3, 0, 0, 0, 0)", "strip(0, 4, 0, 0, 0)", "strip(0, 0, 0, 257, 0)");
        Refused.are(due, Scenes::allElements, BAD, "strip(2, 0, 0, 1, 0)", "strip(0, 0, 0, 257, 0)", "strip(0, 0, 0, 1, -1)");
    }

    @Says("3: FULL")
    static void stripFull(Due due) {
        Refused.are(due, Scenes::allStrips, FULL, "strip(0, 0, 0, 0, 0)", "strip(1, 3, 30000, 256, 256)");
        Refused.are(due, Scenes::allElements, FULL, "strip(0, 0, 0, 1, 0)", "strip(1, 3, 0, 256, 0)");
        Run r = new Run(due);
        Scenes.allElements(r);
        r.is("strip(1, 0, 0, 0, 0)", 0);
    }

    @Says("3: SIZE")
    static void stripSize(Due due) {
        Refused.are(due, Scenes::rest, SIZE, "strip(0, 0, 0, -1, 0)", "strip(0, 3, 30000, -256, 256)",
            "strip(2, 0, 0, MIN, 0)");
        withRoll(due).is("strip(0, 0, 0, 0, 0)", 0);
    }

    @Says("4: ELEMENT k becomes the lowest bits of v: 1")
    static void punchLowestBits(Due due) {
        int[] values = {0, 1, -1, 127, 128, 255, 256, 32767, 32768, 65535, 65536, Integer.MAX_VALUE, Integer.MIN_VALUE};
        for (int kind = 0; kind < 4; kind++) {
            Run r = withStrip(due, kind, 3);
            int width = WIDTHS[kind];
            for (int v : values) {
                r.is("punch(0, 0, 1, " + v + ")", 1);
                for (int b = 0; b < width; b++) {
                    r.is("byteOf(0, 0, " + (9 + width + b) + ")", v >> 8 * (width - 1 - b) & 255);
                }
                r.is("byteOf(0, 0, " + (9 + width - 1) + ")", 0).is("byteOf(0, 0, " + (9 + 2 * width) + ")", 0);
                r.is("read(0, 0)", 3);
            }
        }
    }

    @Says("4: LOST, TORN: ELEMENT k from 0 to the last")
    static void punchFirstAndLast(Due due) {
        for (int kind = 0; kind < 4; kind++) {
            withStrip(due, kind, 256).is("punch(0, 0, 0, 1)", 1).is("punch(0, 0, 255, 1)", 1).is("read(0, 0)", 256)
                .is("byteOf(0, 0, " + (8 + WIDTHS[kind]) + ")", 1).is("byteOf(0, 0, " + (8 + 256 * WIDTHS[kind]) + ")", 1)
                .are(TORN, "punch(0, 0, -1, 1)", "punch(0, 0, 256, 1)");
            withStrip(due, kind, 0).are(TORN, "punch(0, 0, 0, 1)", "punch(0, 0, -1, 1)");
            withStrip(due, kind, 2).is("tear(0, 0, " + (9 + WIDTHS[kind]) + ")", 1).is("punch(0, 0, 1, 1)", TORN)
                .is("punch(0, 0, 0, 1)", 1).is("tear(0, 0, 8)", 0).is("punch(0, 0, 0, 1)", TORN);
        }
    }

    @Says("4: TORN: a k whose byte's number wraps around")
    static void punchWraps(Due due) {
        for (int kind = 0; kind < 4; kind++) {
            int k = kind;
            Refused.are(due, r -> r.does("roll()", "strip(0, " + k + ", 0, 4, 0)"), TORN, "punch(0, 0, -1, 7)",
                "punch(0, 0, 4, 7)", "punch(0, 0, 536870912, 7)", "punch(0, 0, 1073741824, 7)", "punch(0, 0, 1073741825, 7)",
                "punch(0, 0, -1073741824, 7)", "punch(0, 0, MIN, 7)", "punch(0, 0, -2147483647, 7)", "punch(0, 0, MAX, 7)");
        }
    }

    @Says("4: LOST, TORN: LOST comes first")
    static void punchLost(Due due) {
        Refused.are(due, Scenes::rest, LOST, "punch(1, 3, 0, 1)", "punch(1, 3, -1, 1)", "punch(1, 3, 99, 1)", "punch(1, 4, 0, 1)");
    }

    @Says("4: it is SEALED, if it was WHOLE")
    static void punchSealsTheWhole(Due due) {
        String[] breaks = {"damage(0, 0, 0, 1)", "damage(0, 0, 2, 1)", "damage(0, 0, 3, 128)", "damage(0, 0, 4, 1)",
            "damage(0, 0, 4, 4)", "damage(0, 0, 8, 1)", "damage(0, 0, 9, 1)", "tear(0, 0, 10)"};
        for (String one : breaks) {
            Run r = withStrip(due, 0, 3).does(one);
            long finding = r.ask("read(0, 0)");
            long[] head = new long[9];
            for (int i = 0; i < 9; i++) head[i] = r.ask("byteOf(0, 0, " + i + ")");
            r.is("punch(0, 0, 0, 77)", 1).row("byteOf(0, 0, *)", head).is("byteOf(0, 0, 9)", 77).is("read(0, 0)", finding);
            r.is("punch(0, 0, 2, 7)", one.startsWith("tear") ? TORN : 1).row("byteOf(0, 0, *)", head);
        }
        Run r = withStrip(due, 0, 3).is("punch(0, 0, 2, 77)", 1).is("read(0, 0)", 3).is("head(0, 0, 1)", 5);
        r.is("head(0, 0, 3)", r.ask("sum(0, 0)"));
    }

    @Says("5: It is SEALED: how many ELEMENTS it has")
    static void sealHowMany(Due due) {
        for (int kind = 0; kind < 4; kind++) {
            withStrip(due, kind, 256).is("seal(0, 0)", 256).is("read(0, 0)", 256).is("head(0, 0, 2)", 256);
            withStrip(due, kind, 0).is("seal(0, 0)", 0).is("read(0, 0)", 0);
            for (int stay = 0; stay <= 9; stay++) {
                Run r = withStrip(due, kind, 2).is("tear(0, 0, " + stay + ")", 0).is("seal(0, 0)", 0).is("read(0, 0)", 0);
                r.row("head(0, 0, *)", kind, 5, 0, r.ask("sum(0, 0)")).is("byteOf(0, 0, 9)", TORN).is("count(6)", 0);
            }
        }
    }

    @Says("5: BAD, BUSY; LOST")
    static void sealLost(Due due) {
        Refused.are(due, Scenes::rest, LOST, "seal(1, 3)", "seal(1, 4)");
    }

    @Says("6: It is LOST: 1; 0: it was")
    static void loseTwice(Due due) {
        withStrip(due, 0, 3).isWith(0, "lose(0, 0)", 1).is("count(6)", 0).isWith(0, "lose(0, 0)", 0).is("count(6)", 0)
            .is("strips(0)", 1).is("told(0, 0, 3)", 0).is("read(0, 0)", LOST).is("whole(0)", 0);
        withStrip(due, 3, 0).is("lose(0, 0)", 1).is("lose(0, 0)", 0);
        withStrip(due, 3, 4).is("tear(0, 0, 0)", 0).is("lose(0, 0)", 1).is("lose(0, 0)", 0);
    }

    @Says("7: Of its BYTES the first n stay (of an ELEMENT all or none; all, if it has fewer): how many ELEMENTS")
    static void tearEachLength(Due due) {
        for (int kind = 0; kind < 4; kind++) {
            int all = 9 + 3 * WIDTHS[kind];
            for (int n = 0; n <= all + 2; n++) {
                int stay = n >= all ? 3 : n <= 9 ? 0 : (n - 9) / WIDTHS[kind];
                int length = n < 9 ? n : 9 + stay * WIDTHS[kind];
                Run r = withStrip(due, kind, 3).isWith(0, "tear(0, 0, " + n + ")", stay).is("told(0, 0, 3)", stay);
                r.is("count(6)", stay).is("byteOf(0, 0, " + length + ")", TORN);
                if (length > 0) due.is("the last byte is there", r.ask("byteOf(0, 0, " + (length - 1) + ")") >= 0 ? 1 : 0, 1);
            }
            withStrip(due, kind, 3).is("tear(0, 0, MAX)", 3).is("read(0, 0)", 3);
        }
    }

    @Says("7: all, if it has fewer: what was torn off does not come again")
    static void tearAgain(Due due) {
        for (int kind = 0; kind < 4; kind++) {
            withStrip(due, kind, 3).is("tear(0, 0, 5)", 0).is("tear(0, 0, 9)", 0).is("byteOf(0, 0, 5)", TORN)
                .is("tear(0, 0, MAX)", 0).is("byteOf(0, 0, 5)", TORN).is("byteOf(0, 0, 4)", 3);
        }
        withStrip(due, 3, 3).is("tear(0, 0, 17)", 2).is("tear(0, 0, 99)", 2).is("byteOf(0, 0, 17)", TORN);
    }

    @Says("7: BAD: also n below 0; BUSY; LOST")
    static void tearRefused(Due due) {
        Refused.are(due, Scenes::rest, BAD, "tear(0, 0, -1)", "tear(0, 0, MIN)", "tear(1, 3, -1)");
        Refused.are(due, Scenes::rest, LOST, "tear(1, 3, 0)", "tear(1, 3, MAX)");
        Refused.are(due, Scenes::busy, BAD, "tear(0, 0, -1)");
    }

    @Says("8: BYTE i xor mask, of that the lowest 8 bits: the BYTE then (0 .. 255)")
    static void damageLowestBits(Due due) {
        withStrip(due, 0, 1).is("damage(0, 0, 9, 128)", 128).is("damage(0, 0, 9, 127)", 255).is("damage(0, 0, 9, 0)", 255)
            .is("damage(0, 0, 9, 256)", 255).is("damage(0, 0, 9, MIN)", 255).is("damage(0, 0, 9, MAX)", 0)
            .is("damage(0, 0, 9, -1)", 255).is("damage(0, 0, 9, -256)", 255).is("byteOf(0, 0, 9)", 255)
            .is("damage(0, 0, 9, 511)", 0).is("read(0, 0)", 1);
    }

    @Says("8: BAD, BUSY; LOST, TORN")
    static void damageFirstAndLast(Due due) {
        withStrip(due, 3, 2).is("damage(0, 0, 0, 0)", 3).is("damage(0, 0, 16, 5)", 5).is("damage(0, 0, 17, 5)", TORN)
            .is("tear(0, 0, 3)", 0).is("damage(0, 0, 2, 0)", 5).is("damage(0, 0, 3, 0)", TORN);
        Refused.are(due, Scenes::rest, TORN, "damage(0, 0, -1, 1)", "damage(0, 0, 13, 1)", "damage(0, 0, MIN, 1)",
            "damage(0, 0, MAX, 1)", "damage(1, 2, 4, 1)");
        Refused.are(due, Scenes::rest, LOST, "damage(1, 3, 0, 1)", "damage(1, 3, -1, 1)", "damage(1, 3, 99, 1)");
    }

    @Says("9: BYTE i (0 .. 255). BAD; LOST, TORN")
    static void byteFirstAndLast(Due due) {
        for (int kind = 0; kind < 4; kind++) {
            int all = 9 + 256 * WIDTHS[kind];
            withStrip(due, kind, 256).is("punch(0, 0, 255, -1)", 1).is("byteOf(0, 0, 0)", kind)
                .is("byteOf(0, 0, " + (all - 1) + ")", 255).is("byteOf(0, 0, " + all + ")", TORN).is("byteOf(0, 0, -1)", TORN);
        }
        Refused.are(due, Scenes::rest, TORN, "byteOf(0, 0, -1)", "byteOf(0, 0, 13)", "byteOf(0, 0, MIN)",
            "byteOf(0, 0, MAX)", "byteOf(1, 2, 4)");
        Refused.are(due, Scenes::rest, LOST, "byteOf(1, 3, 0)", "byteOf(1, 3, -1)");
    }

    @Says("10: What its HEAD tells: 0 kind, 1 number, 2 length, 3 sum. BAD; LOST, TORN: a byte of that is not there")
    static void headByBytes(Due due) {
        int[] needs = {1, 3, 5, 9};
        for (int stay = 0; stay <= 9; stay++) {
            for (int what = 0; what < 4; what++) {
                Run r = withRoll(due).does("strip(0, 1, 772, 3, 0)");
                long[] told = {1, 772, 3, r.ask("sum(0, 0)")};
                r.does("tear(0, 0, " + stay + ")");
                r.isWith(stay < needs[what] ? 2 : 0, "head(0, 0, " + what + ")", stay < needs[what] ? 0 : told[what]);
            }
        }
        Refused.areZero(due, Scenes::rest, BAD, "head(0, 0, -1)", "head(0, 0, 4)", "head(0, 0, MIN)", "head(0, 0, MAX)",
            "head(1, 3, 4)", "head(1, 2, -1)");
        Refused.areZero(due, Scenes::rest, 1, "head(1, 3, 0)", "head(1, 3, 1)", "head(1, 3, 2)", "head(1, 3, 3)");
    }

    @Says("11: ITS SUM. BAD; LOST, TORN: one of the first five bytes is not there")
    static void sumByFirstFive(Due due) {
        Run r = withStrip(due, 1, 3);
        int head = ((((31 + 1) * 31 + 0) * 31 + 5) * 31 + 0) * 31 + 3;
        for (int stay = 10; stay >= 5; stay--) {
            r.is("tear(0, 0, " + stay + ")", 0).isWith(0, "sum(0, 0)", head);
        }
        for (int stay = 4; stay >= 0; stay--) r.is("tear(0, 0, " + stay + ")", 0).isWith(2, "sum(0, 0)", 0);
        r.is("lose(0, 0)", 1).isWith(1, "sum(0, 0)", 0);
    }

    @Says("12: It is READ: how many ELEMENTS it has. BAD; its FINDING")
    static void readHowMany(Due due) {
        for (int kind = 0; kind < 4; kind++) {
            for (int n : new int[] {0, 1, 255, 256}) withStrip(due, kind, n).isWith(0, "read(0, 0)", n);
        }
        Refused.are(due, Scenes::rest, SUM, "read(1, 1)");
        Refused.are(due, Scenes::rest, TORN, "read(1, 2)");
        Refused.are(due, Scenes::rest, LOST, "read(1, 3)");
    }

    @Says("13: How many STRIPS of a ROLL are WHOLE")
    static void wholeNoneAndAll(Due due) {
        Run r = withRoll(due).is("whole(0)", 0);
        for (int s = 0; s < 4; s++) r.does("strip(0, " + s + ", 0, 2, 0)").is("whole(0)", s + 1);
        for (int s = 0; s < 4; s++) r.does("damage(0, " + s + ", 8, 1)").is("whole(0)", 3 - s);
        r.is("seal(0, 3)", 2).is("whole(0)", 1);
    }

    @Says("14: Place of the k-th STRIP (from 0 on) of a ROLL that is not WHOLE; NONE. BAD: also k below 0")
    static void findingFirstAndLast(Due due) {
        Run r = withRoll(due).isWith(0, "finding(0, 0)", NONE);
        for (int s = 0; s < 5; s++) r.does("strip(0, 0, 0, 1, 0)");
        r.is("finding(0, 0)", NONE).does("lose(0, 0)").is("finding(0, 0)", 0).is("finding(0, 1)", NONE);
        r.does("damage(0, 4, 8, 1)", "tear(0, 2, 0)").row("finding(0, *)", 0, 2, 4, NONE).is("finding(0, MAX)", NONE);
        Refused.are(due, Scenes::rest, BAD, "finding(1, -1)", "finding(1, MIN)");
        Refused.are(due, Scenes::rest, NONE, "finding(1, 4)", "finding(0, 0)", "finding(2, 0)");
    }

    @Says("15: THE LIST: 0 KIND, 1 NUMBER, 2 TICKS; 3 how many ELEMENTS it has (LOST: 0). BAD")
    static void toldAll(Due due) {
        Run r = withRoll(due).is("strip(0, 2, 30000, 256, 256)", 0).row("told(0, 0, *)", 2, 30000, 256, 256);
        r.is("tear(0, 0, 12)", 1).is("told(0, 0, 3)", 1).is("tear(0, 0, 10)", 0).is("told(0, 0, 3)", 0);
        r.is("tear(0, 0, 3)", 0).row("told(0, 0, *)", 2, 30000, 256, 0).is("lose(0, 0)", 1);
        r.row("told(0, 0, *)", 2, 30000, 256, 0);
        Refused.are(due, Scenes::rest, BAD, "told(0, 0, -1)", "told(0, 0, 4)", "told(0, 0, MIN)", "told(0, 0, MAX)",
            "told(1, 3, 4)");
    }
}
