/** Section 3 and promises 16 to 26 at their edges. */
public final class InstrumentsEdgesTest {
    private static final int BAD = Run.BAD, FULL = Run.FULL, BUSY = Run.BUSY, NONE = Run.NONE;
    private static final int TORN = Run.TORN, SIZE = Run.SIZE, KIND = Run.KIND, STORE = Run.STORE;
    private static final long NO_NUMBER = 0x7ff8000000000000L;
    private static final int[] TUNED = {0, 1, 2, 4, 5};

    public static void main(String[] args) {
        Due.runAll(InstrumentsEdgesTest.class);
    }

    /** One INSTRUMENT of each KIND, numbered as their KINDS are. */
    private static Run seven(Due due) {
        Run r = new Run(due);
        for (int kind = 0; kind < 7; kind++) r.is("instrument(" + kind + ")", kind);
        return r;
    }

    /** These at PLACES 0 .. 6 of CHEST 0, PLACE 7 is empty; TRACK t goes to PLACE t; ROLL 0 has no STRIPS. */
    private static Run organ(Due due) {
        Run r = seven(due).is("chest(7, 8)", 0).is("roll()", 0);
        for (int i = 0; i < 7; i++) r.is("place(0, " + i + ", " + i + ")", 1);
        for (int t = 0; t < 8; t++) r.is("wire(" + t + ", 0, " + t + ")", 1);
        return r;
    }

    private static Run frequency(Run r, int instrument, double want) {
        return r.is("frequency(" + instrument + ")", Double.doubleToLongBits(want));
    }

    // ---- section 3

    @Says("section 3: INSTRUMENTS (60 at most), numbered from 0 on")
    static void sixtyInstruments(Due due) {
        Run r = new Run(due).is("members(0)", BAD);
        for (int i = 0; i < 60; i++) r.is("instrument(" + (6 - i % 7) + ")", i);
        r.isWith(FULL, "instrument(0)", FULL).is("instrument(6)", FULL).is("count(1)", 60);
        r.is("spoil(59, 7)", 0).is("spoil(59, 0)", 7).is("spoil(60, 0)", BAD).is("mute(59)", KIND).is("mute(60)", BAD);
    }

    @Says("section 3: CHESTS (16 at most; 200 PLACES in all)")
    static void sixteenChests(Due due) {
        Run r = new Run(due);
        for (int c = 0; c < 16; c++) r.is("chest(" + c % 8 + ", 0)", c);
        r.isWith(FULL, "chest(0, 0)", FULL).is("count(2)", 16).is("count(7)", 0).is("wire(0, 15, 0)", 1).is("wire(0, 16, 0)", BAD);
    }

    @Says("section 3: 200 PLACES in all")
    static void twoHundredPlaces(Due due) {
        new Run(due).is("chest(7, 201)", FULL).is("chest(7, 200)", 0).is("chest(7, 1)", FULL).is("chest(7, 0)", 1)
            .is("count(7)", 200).is("place(0, 199, -1)", 1).is("place(0, 200, -1)", TORN).is("place(1, 0, -1)", TORN);
        new Run(due).is("chest(0, 199)", 0).is("chest(0, 2)", FULL).is("chest(0, 1)", 1).is("chest(0, 1)", FULL)
            .is("place(1, 0, -1)", 1).is("place(1, 1, -1)", TORN).is("count(7)", 200).is("count(2)", 2);
    }

    @Says("section 3: its PLACES are empty at first")
    static void emptyAtFirst(Due due) {
        new Run(due).is("instrument(0)", 0).is("chest(7, 2)", 0).is("chest(0, 1)", 1).does("wire(0, 0, 0)", "wire(1, 0, 1)",
            "wire(2, 1, 0)", "roll()").strip(0, 1, 7).does("play(0)", "tick(1)").is("count(3)", 4).event(1, 3, 0, 0, 1)
            .event(2, 3, 0, 1, 1).event(3, 3, 0, 2, 1).is("count(4)", 0);
    }

    @Says("section 3: 0 PIPE, 1 REED (a PIPE, too), 2 BASS (a REED, too), 3 DRUM, 4 PLUCKED, 5 BELL (PLUCKED, too), 6 COUPLER .. and take what is of its KIND")
    static void chestsTakeTheirKind(Due due) {
        String[] takes = {"012", "12", "2", "3", "45", "5", "6", "0123456"};
        for (int c = 0; c < 8; c++) {
            Run r = seven(due).is("chest(" + c + ", 1)", 0);
            for (int i = 0; i < 7; i++) {
                r.isWith(takes[c].indexOf('0' + i) < 0 ? 6 : 0, "place(0, 0, " + i + ")", takes[c].indexOf('0' + i) < 0 ? STORE : 1);
            }
        }
    }

    @Says("section 3: A COUPLER has MEMBERS (8 at most; none at first)")
    static void eightMembers(Due due) {
        Run r = seven(due).is("members(6)", 0).is("frequency(6)", NO_NUMBER);
        for (int n = 1; n <= 8; n++) r.is("couple(6, " + n % 6 + ")", n);
        r.isWith(FULL, "couple(6, 0)", FULL).is("members(6)", 8);
    }

    @Says("section 3: the SIZE 1 and theirs together (of others 1), 40 at most")
    static void sizeForty(Due due) {
        Run r = new Run(due);
        for (int i = 0; i < 6; i++) r.is("instrument(" + (i < 5 ? 6 : 0) + ")", i);
        for (int n = 1; n <= 8; n++) r.is("couple(1, 5)", n);
        for (int n = 1; n <= 4; n++) r.is("couple(0, 1)", n);
        r.is("couple(0, 1)", FULL).is("couple(0, 5)", 5).is("couple(0, 5)", 6).is("couple(0, 2)", 7);
        r.isWith(FULL, "couple(0, 5)", FULL).is("members(0)", 7).is("couple(2, 5)", FULL).is("couple(3, 0)", FULL);
        r.is("couple(3, 1)", 1).is("couple(4, 3)", 1).is("members(2)", 0);
    }

    @Says("section 3: the SIZE 40 at most: of one that has it as a MEMBER's MEMBER, as often as it has it")
    static void sizeAbove(Due due) {
        Refused.are(due, Scenes::allSizes, FULL, "couple(0, 3)", "couple(0, 2)", "couple(0, 4)", "couple(1, 3)", "couple(1, 2)",
            "couple(2, 3)", "couple(2, 4)", "couple(4, 0)");
        Run r = new Run(due);
        Scenes.allSizes(r);
        r.is("couple(4, 1)", 1).is("couple(4, 1)", 2).is("couple(4, 2)", 3).is("couple(4, 2)", 4).is("couple(4, 2)", FULL);
        r.is("couple(4, 3)", 5).is("couple(4, 3)", FULL).is("members(4)", 5);
    }

    @Says("section 3: the SIZE 40 at most: 40 levels of COUPLERS")
    static void sizeOfAChain(Due due) {
        Run r = new Run(due);
        for (int i = 0; i < 41; i++) r.does("instrument(6)");
        for (int i = 0; i < 39; i++) r.is("couple(" + i + ", " + (i + 1) + ")", 1);
        r.are(FULL, "couple(39, 40)", "couple(0, 40)", "couple(20, 40)", "couple(40, 0)").is("couple(39, 0)", BAD);
        r.is("couple(40, 1)", 1).is("frequency(0)", NO_NUMBER).is("trace(13)", 40);
    }

    @Says("section 3: PIPE, REED, BASS, PLUCKED, BELL have a RATIO: p / q (1 / 1 at first)")
    static void ratioAtFirst(Due due) {
        Run r = seven(due);
        frequency(r, 0, 440.0);
        frequency(r, 1, 220.0);
        frequency(r, 2, 220.0);
        frequency(r, 4, 440.0);
        frequency(r, 5, 440.25);
    }

    @Says("section 3: FREQUENCIES are doubles, all acts on them single ones")
    static void singleActs(Due due) {
        int unlike = 0;
        int[][] some = {{7041, 3, 11}, {1, 1, 1000}, {32000, 1000, 3}, {44, 30, 11}, {88, 15, 11}, {7, 29, 7}, {11, 15, 11}};
        for (int[] one : some) {
            double base = one[0] / 16.0;
            double pipe = base * ((double) one[1] / (double) one[2]);
            if (pipe != base * one[1] / one[2]) unlike++;
            Run r = seven(due).is("base(" + one[0] + ")", 1);
            for (int i : TUNED) r.is("tune(" + i + ", " + one[1] + ", " + one[2] + ")", 1);
            frequency(r, 0, pipe);
            frequency(r, 1, pipe / 2.0);
            frequency(r, 2, Math.floor(pipe / 2.0 * 4.0) / 4.0);
            frequency(r, 4, Math.rint(pipe * 8.0) / 8.0);
            frequency(r, 5, Math.floor(Math.rint(pipe * 8.0) / 8.0) + 0.25);
        }
        due.is("the order of the acts shows", unlike > 0 ? 1 : 0, 1);
    }

    @Says("section 3: BASS: as a REED, floor(that * 4.0) / 4.0")
    static void bassFloor(Due due) {
        Run r = seven(due);
        int[] bases = {1, 7, 8, 9, 15, 16, 23, 24};
        double[] want = {0.0, 0.0, 0.25, 0.25, 0.25, 0.5, 0.5, 0.75};
        for (int i = 0; i < bases.length; i++) frequency(r.is("base(" + bases[i] + ")", 1), 2, want[i]);
    }

    @Says("section 3: PLUCKED: rint((BASE * RATIO) * 8.0) / 8.0")
    static void pluckedRint(Due due) {
        Run r = seven(due);
        double[] want = {0.0, 0.125, 0.25, 0.25, 0.25, 0.375, 0.5, 0.5, 0.5};
        for (int v = 1; v <= 9; v++) frequency(r.is("base(" + v + ")", 1), 4, want[v - 1]);
        r.is("base(31999)", 1);
        frequency(r, 4, 2000.0);
        r.is("base(16)", 1).is("tune(4, 499, 1000)", 1);
        frequency(r, 4, 0.5);
        r.is("tune(4, 562, 1000)", 1);
        frequency(r, 4, 0.5);
        r.is("tune(4, 563, 1000)", 1);
        frequency(r, 4, 0.625);
    }

    @Says("section 3: BELL: as PLUCKED, floor(that) + 0.25")
    static void bellFloor(Due due) {
        Run r = seven(due);
        int[] bases = {1, 14, 15, 16, 17, 30, 31};
        double[] want = {0.25, 0.25, 1.25, 1.25, 1.25, 1.25, 2.25};
        for (int i = 0; i < bases.length; i++) frequency(r.is("base(" + bases[i] + ")", 1), 5, want[i]);
    }

    @Says("section 3: or no number: 0 / 0 .. Where RATIO is no number it is none (BODIES begin as ever)")
    static void noNumber(Due due) {
        Run r = seven(due);
        int[][] bodies = {{8}, {9, 8}, {10, 9, 8}, {}, {11}, {12, 11}};
        for (int i : TUNED) {
            r.is("tune(" + i + ", 0, 0)", 0);
            long[] before = new long[17];
            for (int b = 0; b < 17; b++) before[b] = r.ask("trace(" + b + ")");
            r.isWith(0, "frequency(" + i + ")", NO_NUMBER);
            for (int b : bodies[i]) before[b]++;
            r.row("trace(*)", before).is("mute(" + i + ")", 1).is("tune(" + i + ", 0, 1)", 1);
            frequency(r, i, i == 5 ? 0.25 : 0.0).is("mute(" + i + ")", 0);
        }
    }

    @Says("section 3: COUPLER: the greatest of those of its MEMBERS that are a number (a DRUM has none); none, if there are none such")
    static void couplersGreatest(Due due) {
        Run r = seven(due).is("instrument(6)", 7).is("frequency(6)", NO_NUMBER).is("couple(6, 3)", 1);
        r.is("frequency(6)", NO_NUMBER).is("tune(0, 0, 0)", 0).is("couple(6, 0)", 2).is("frequency(6)", NO_NUMBER);
        r.is("couple(6, 7)", 3).is("frequency(6)", NO_NUMBER).is("mute(6)", 1).is("tune(4, 0, 1)", 1).is("couple(6, 4)", 4);
        frequency(r, 6, 0.0).is("mute(6)", 0).is("couple(7, 1)", 1);
        frequency(r, 6, 220.0).is("tune(1, 0, 0)", 0);
        frequency(r, 6, 0.0).is("tune(4, 0, 0)", 0).is("frequency(6)", NO_NUMBER);
        r.is("tune(0, 1, 1)", 1).is("tune(4, 2, 1)", 1);
        frequency(r, 6, 880.0).is("tune(0, 3, 1)", 1);
        frequency(r, 6, 1320.0);
    }

    @Says("section 3: FREQUENCY of a COUPLER does those of all its MEMBERS, in each state")
    static void couplersBodies(Due due) {
        Run r = seven(due);
        for (int i = 0; i < 6; i++) r.does("couple(6, " + i + ")");
        r.does("tune(0, 0, 0)", "couple(6, 0)", "frequency(6)");
        long[] want = {0, 0, 0, 0, 0, 0, 0, 0, 4, 2, 1, 2, 1, 1, 0, 0, 0};
        r.row("trace(*)", want);
    }

    @Says("section 3: AIR: PIPE: 3 and how many STOPS are drawn; BASS: 2 times as a PIPE")
    static void airByStops(Due due) {
        for (int not = 0; not <= 16; not += 4) {
            int[] stops = new int[not];
            for (int c = 0; c < not; c++) stops[c] = 'a' + c;
            Run r = organ(due).strip(0, 0, 7).strip(2, 0, stops).strip(1, 1, 0x8000 | 10);
            int air = 3 + 16 - not;
            r.does("play(0)", "tick(1)").row("loud(*)", 10 + air, 10 + air + 7, 10 + 2 * air + 7);
            r.row("trace(*)", 3, 2, 0, 0, 0, 0, 3, 1);
        }
    }

    @Says("section 3: LOUD, by a level v and an age a: PIPE: v + AIR. REED: as a PIPE, and 7")
    static void loudByLevel(Due due) {
        for (int v : new int[] {0, 1, 4095}) {
            Run r = organ(due).strip(0, 0, 7).strip(1, 1, 0x8000 | v).does("play(0)", "tick(1)");
            r.row("loud(*)", v + 19, v + 26, v + 45, NONE);
        }
    }

    @Says("section 3: DRUM: 2 * v at age 0, else 0")
    static void drumIsOver(Due due) {
        Run r = organ(due).strip(0, 3, 8, 8, 8).does("play(0)", "tick(1)").is("sounding(0, 2)", 1).is("loud(0)", 0);
        r.does("tick(1)").is("loud(0)", 0).is("trace(2)", 2);
    }

    @Says("section 3: PLUCKED: v - 5 * a, at least 0")
    static void pluckedFades(Due due) {
        Run r = organ(due).strip(1, 0, 0x8000 | 11).strip(0, 5, 16, 16, 16, 16, 16).does("play(0)");
        for (int loud : new int[] {6, 1, 0, 0}) r.does("tick(1)").is("loud(0)", loud);
        r = organ(due).strip(1, 0, 0x8000 | 10).strip(0, 5, 16, 16, 16, 16, 16).does("play(0)");
        for (int loud : new int[] {5, 0, 0}) r.does("tick(1)").is("loud(0)", loud);
        r = organ(due).strip(1, 0, 0x8000).strip(0, 5, 16, 16).does("play(0)", "tick(1)").is("loud(0)", 0);
    }

    @Says("section 3: BELL: as PLUCKED with a / 4 (cut off), and 1")
    static void bellFades(Due due) {
        Run r = organ(due).strip(1, 0, 0x8000 | 11).strip(0, 14, 32, 32, 32, 32, 32, 32, 32, 32, 32, 32, 32, 32, 32, 32);
        r.does("play(0)");
        for (int loud : new int[] {12, 12, 12, 7, 7, 7, 7, 2, 2, 2, 2, 1, 1}) r.does("tick(1)").is("loud(0)", loud);
        r.is("trace(4)", 13).is("trace(3)", 13).is("trace(11)", 13).is("trace(12)", 13);
    }

    @Says("section 3: COUPLER: 0")
    static void couplerIsStill(Due due) {
        Run r = organ(due).is("couple(6, 0)", 1).strip(0, 1, 64).does("play(0)", "tick(1)").is("loud(0)", 0).is("loud(1)", 1019);
        r.is("trace(5)", 1).is("trace(0)", 1).is("trace(13)", 1).is("trace(8)", 2);
    }

    @Says("section 3: LOUD of 0 PIPE, 1 REED, 2 DRUM, 3 PLUCKED, 4 BELL, 5 COUPLER; AIR of 6 PIPE, 7 BASS; FREQUENCY of 8 PIPE, 9 REED, 10 BASS, 11 PLUCKED, 12 BELL, 13 COUPLER .. As a .. does that one's body, too")
    static void bodiesOfEach(Due due) {
        int[][] louds = {{0, 6, 8}, {1, 0, 6, 9, 8}, {1, 0, 7, 6, 10, 9, 8}, {2}, {3, 11}, {4, 3, 12, 11}, {5, 13, 11}};
        for (int i = 0; i < 7; i++) {
            Run r = organ(due).does("couple(6, 4)").strip(0, 1, 1 << i).does("play(0)", "tick(1)");
            long[] want = new long[17];
            for (int b = 14; b < 17; b++) want[b] = r.ask("trace(" + b + ")");
            for (int n = 1; n <= 2; n++) {
                r.does("loud(0)");
                for (int b : louds[i]) want[b]++;
                r.row("trace(*)", want);
            }
            if (i == 3) continue;
            r.does("frequency(" + i + ")", "mute(" + i + ")", "higher(" + i + ", " + i + ")");
            for (int b : louds[i]) want[b] += b > 7 ? 4 : 0;
            r.row("trace(*)", want);
        }
    }

    @Says("section 3: BODIES: 14 TO OPEN any, 15 TO OPEN a COUPLER (which does 14, too; both also if it is SPOILT then); 16 TO END any")
    static void bodiesOfOpening(Due due) {
        Run r = organ(due).is("couple(6, 0)", 1).is("spoil(6, 1)", 0).strip(0, 3, 64, 0, 64).does("play(0)", "tick(1)");
        r.is("trace(14)", 1).is("trace(15)", 1).is("trace(16)", 0).event(1, 3, 0, 6, 10).does("tick(2)");
        r.is("trace(14)", 3).is("trace(15)", 2).is("trace(16)", 0).is("halt()", 2).is("trace(16)", 2);
        r.does("spoil(0, 1)", "play(0)", "tick(1)").is("trace(14)", 5).is("trace(15)", 3).is("trace(16)", 3);
    }

    @Says("section 3: TO OPEN one: if it is to SPOIL after n > 0 openings, n is one less; is it 0 then: SPOILT")
    static void spoiltAtTheLast(Due due) {
        for (int n = 0; n <= 3; n++) {
            Run r = organ(due).does("spoil(0, " + n + ")").strip(0, 8, 1, 0, 1, 0, 1, 0, 1, 0).does("play(0)");
            for (int k = 1; k <= 4; k++) {
                r.does("tick(1)").is("open(0)", k == n ? 0 : 1).does("tick(1)").is("open(0)", NONE);
            }
            r.is("times(0, 0)", n == 0 ? 4 : 3).is("times(0, 1)", n == 0 ? 4 : 3).does("halt()").is("spoil(0, 0)", 0);
        }
        Run r = organ(due).does("spoil(0, 1000)").strip(0, 2, 1, 0).does("play(0)", "tick(2)", "halt()");
        r.is("spoil(0, 2)", 999).does("play(0)", "tick(1)").is("open(0)", 1).does("halt()", "play(0)", "tick(1)").is("open(0)", 0);
        r.does("halt()", "play(0)", "tick(1)").is("open(0)", 1);
    }

    @Says("section 3: A COUPLER then OPENS its MEMBERS, in order")
    static void membersInOrder(Due due) {
        Run r = organ(due).does("couple(6, 5)", "couple(6, 0)", "couple(6, 5)").strip(0, 2, 64, 0).does("play(0)", "tick(1)");
        r.row("sounding(*, 0)", 6, 5, 0, 5, NONE).is("open(6)", 4).event(1, 1, 0, 6, 6).event(4, 1, 0, 5, 6).does("tick(1)");
        r.event(5, 2, 1, 5, 6).event(6, 2, 1, 0, 6).event(7, 2, 1, 5, 6).event(8, 2, 1, 6, 6).is("count(3)", 9);
        organ(due).strip(0, 1, 64).does("play(0)", "tick(1)").is("open(6)", 1).is("count(3)", 2).event(1, 1, 0, 6, 6);
    }

    @Says("section 3: cannot one, all that came by this COUPLER's opening and it itself are ENDED, the latest first, and it cannot for the same reason")
    static void cannotOne(Due due) {
        for (int bad = 0; bad < 3; bad++) {
            Run r = organ(due).does("couple(6, 0)", "couple(6, 1)", "couple(6, 2)", "spoil(" + bad + ", 1)");
            r.strip(0, 2, 72, 72).does("play(0)", "tick(1)").is("open(6)", 0).is("open(3)", 1).is("count(4)", 1);
            r.event(1, 1, 0, 3, 3).event(2, 1, 0, 6, 6);
            for (int k = 0; k < bad; k++) r.event(3 + k, 1, 0, k, 6).event(3 + bad + k, 2, 0, bad - 1 - k, 6);
            r.event(3 + 2 * bad, 2, 0, 6, 6).event(4 + 2 * bad, 3, 0, 6, 10).is("count(3)", 5 + 2 * bad);
            r.is("times(6, 0)", 1).is("times(6, 1)", 1).is("times(" + bad + ", 0)", 0).is("times(" + bad + ", 1)", 0);
        }
    }

    @Says("section 3: cannot one .. it cannot for the same reason: nor can one that has it as a MEMBER, and each is ENDED just once")
    static void cannotOneBelow(Due due) {
        Run r = organ(due).is("instrument(6)", 7).does("couple(6, 0)", "couple(6, 7)", "couple(6, 1)", "couple(7, 2)",
            "couple(7, 4)", "spoil(4, 1)").strip(0, 2, 64, 0).does("play(0)", "tick(1)").is("open(6)", 0).is("count(4)", 0);
        int[] came = {6, 0, 7, 2};
        for (int k = 0; k < 4; k++) r.event(1 + k, 1, 0, came[k], 6).event(5 + k, 2, 0, came[3 - k], 6);
        r.event(9, 3, 0, 6, 10).is("count(3)", 10).is("times(1, 0)", 0).is("trace(14)", 5).is("trace(16)", 4);
        r.does("tick(1)").is("count(3)", 10).is("trace(16)", 4);
    }

    // ---- promises

    @Says("16: An INSTRUMENT: its number. BAD: kind is not 0 .. 6; BUSY, FULL")
    static void instrumentKinds(Due due) {
        new Run(due).is("instrument(0)", 0).is("instrument(6)", 1);
        Refused.are(due, Scenes::rest, BAD, "instrument(-1)", "instrument(7)", "instrument(MIN)", "instrument(MAX)");
        Refused.are(due, Scenes::allInstruments, FULL, "instrument(0)", "instrument(6)");
        Refused.are(due, Scenes::allInstruments, BAD, "instrument(-1)", "instrument(7)");
    }

    @Says("17: A COUPLER gets a MEMBER behind the others (one it may have more than once): how many it has")
    static void coupleBehind(Due due) {
        Run r = seven(due);
        for (int n = 1; n <= 8; n++) r.isWith(0, "couple(6, 3)", n).is("members(6)", n);
    }

    @Says("17: BAD: also itself, or one that has it as a MEMBER (or a MEMBER's, and so on)")
    static void coupleItself(Due due) {
        Refused.are(due, Scenes::rest, BAD, "couple(6, 6)", "couple(7, 7)", "couple(6, 7)", "couple(0, 0)");
        Refused.are(due, Scenes::allSizes, BAD, "couple(0, 0)", "couple(1, 0)", "couple(2, 0)", "couple(2, 1)", "couple(3, 0)");
        Run r = new Run(due);
        for (int i = 0; i < 40; i++) r.does("instrument(6)");
        for (int i = 0; i < 39; i++) r.is("couple(" + i + ", " + (i + 1) + ")", 1);
        for (int i = 1; i < 40; i++) r.is("couple(" + i + ", 0)", BAD).is("couple(39, " + (i - 1) + ")", BAD);
    }

    @Says("17: BAD ..; KIND: it is no COUPLER: BAD comes first")
    static void coupleBadAheadOfKind(Due due) {
        Refused.are(due, Scenes::rest, BAD, "couple(0, 0)", "couple(3, 3)", "couple(0, 6)", "couple(3, 7)", "couple(0, 8)", "couple(8, 0)");
        Refused.are(due, Scenes::rest, KIND, "couple(0, 1)", "couple(1, 6)", "couple(2, 7)", "couple(3, 4)", "couple(4, 3)", "couple(5, 6)");
    }

    @Says("17: KIND: it is no COUPLER; then FULL")
    static void coupleKindAheadOfFull(Due due) {
        Refused.are(due, r -> { Scenes.allSizes(r); r.does("instrument(3)"); }, KIND, "couple(5, 0)");
        Refused.are(due, Scenes::allSizes, BAD, "couple(3, 0)", "couple(0, 5)");
    }

    @Says("17: BAD ..; FULL: BAD comes first")
    static void coupleBadAheadOfFull(Due due) {
        Refused.are(due, Scenes::allMembers, BAD, "couple(0, 0)", "couple(0, 2)", "couple(0, -1)");
        Refused.are(due, Scenes::allSizes, BAD, "couple(2, 0)", "couple(1, 1)");
    }

    @Says("17: then FULL: 8, or some SIZE would be above 40")
    static void coupleFull(Due due) {
        Refused.are(due, Scenes::allMembers, FULL, "couple(0, 1)");
        Refused.are(due, Scenes::allSizes, FULL, "couple(0, 3)", "couple(1, 3)", "couple(2, 3)", "couple(4, 0)");
    }

    @Says("18: A CHEST of n PLACES: its number. BAD: kind is not 0 .. 7; BUSY; FULL; SIZE")
    static void chestKinds(Due due) {
        new Run(due).is("chest(0, 0)", 0).is("chest(7, 200)", 1).is("chest(6, 0)", 2);
        Refused.are(due, Scenes::rest, BAD, "chest(-1, 1)", "chest(8, 1)", "chest(MIN, 1)", "chest(MAX, 1)", "chest(8, -1)",
            "chest(-1, 201)");
        Refused.are(due, Scenes::allChests, BAD, "chest(-1, 0)", "chest(8, 0)");
        Refused.are(due, Scenes::allPlaces, BAD, "chest(-1, 1)", "chest(8, 1)");
    }

    @Says("18: FULL")
    static void chestFull(Due due) {
        Refused.are(due, Scenes::allChests, FULL, "chest(0, 0)", "chest(7, 1)", "chest(7, 8)", "chest(7, 9)");
        Refused.are(due, Scenes::allPlaces, FULL, "chest(0, 1)", "chest(7, 200)", "chest(7, MAX)");
        Refused.are(due, Scenes::rest, FULL, "chest(7, 191)", "chest(7, 201)", "chest(7, MAX)");
        Run r = new Run(due);
        Scenes.rest(r);
        r.is("chest(7, 190)", 2).is("count(7)", 200).is("chest(7, 0)", 3);
    }

    @Says("18: SIZE")
    static void chestSize(Due due) {
        Refused.are(due, Scenes::rest, SIZE, "chest(0, -1)", "chest(7, -200)", "chest(7, MIN)");
        Refused.are(due, Scenes::allPlaces, SIZE, "chest(0, -1)", "chest(7, MIN)");
        new Run(due).is("chest(0, 0)", 0).is("place(0, 0, -1)", TORN);
    }

    @Says("19: An INSTRUMENT (-1: nothing) comes to PLACE i of a CHEST: 1. BAD, BUSY; TORN, STORE")
    static void placeFirstAndLast(Due due) {
        seven(due).is("chest(7, 3)", 0).is("place(0, 0, 6)", 1).is("place(0, 2, 6)", 1).is("place(0, 2, -1)", 1)
            .is("place(0, -1, 6)", TORN).is("place(0, 3, 6)", TORN);
        Refused.are(due, Scenes::rest, TORN, "place(0, -1, 0)", "place(0, 8, 0)", "place(0, MIN, 0)", "place(0, MAX, -1)",
            "place(1, 2, 0)", "place(1, -1, -1)");
        Refused.are(due, Scenes::rest, BAD, "place(0, 0, -2)", "place(0, 0, 8)", "place(0, 0, MIN)", "place(0, 0, MAX)",
            "place(-1, 0, -1)", "place(2, 0, -1)");
    }

    @Says("19: BAD ..; TORN, STORE: the first of these")
    static void placeInOrder(Due due) {
        Refused.are(due, Scenes::rest, BAD, "place(2, -1, 0)", "place(0, 8, -2)", "place(1, 2, 8)");
        Refused.are(due, Scenes::rest, TORN, "place(1, 2, 3)", "place(1, -1, 6)");
        Refused.are(due, Scenes::rest, STORE, "place(1, 1, 3)", "place(1, 0, 4)", "place(1, 0, 5)", "place(1, 0, 6)");
    }

    @Says("19: (-1: nothing): the PLACE is empty again; another comes in place of the one there")
    static void placeAgain(Due due) {
        Run r = organ(due).does("place(0, 0, -1)", "place(0, 1, 3)", "place(0, 2, 3)").strip(0, 1, 7).does("play(0)", "tick(1)");
        r.event(1, 3, 0, 0, 1).event(2, 1, 0, 3, 1).event(3, 1, 0, 3, 2).is("count(3)", 4).is("times(3, 0)", 2);
    }

    @Says("20: A TRACK's WIRE goes to PLACE i, any number, of a CHEST (-1: it has none): 1. BAD, BUSY")
    static void wireAnyNumber(Due due) {
        String[] numbers = {"0", "6", "7", "8", "-1", "MIN", "MAX", "1073741824"};
        int[] findings = {0, 0, 1, 2, 2, 2, 2, 2};
        for (int i = 0; i < numbers.length; i++) {
            Run r = organ(due).isWith(0, "wire(3, 0, " + numbers[i] + ")", 1).strip(0, 1, 8).does("play(0)", "tick(1)");
            r.is("open(3)", findings[i] == 0 ? 1 : 0).is("count(3)", 2);
            if (findings[i] != 0) r.event(1, 3, 0, 3, findings[i]);
        }
        organ(due).is("wire(3, -1, 0)", 1).strip(0, 1, 8).does("play(0)", "tick(1)").is("open(3)", 0).is("count(3)", 1);
    }

    @Says("20: BAD")
    static void wireBad(Due due) {
        seven(due).is("chest(7, 1)", 0).are(1, "wire(0, 0, 0)", "wire(7, 0, 0)", "wire(0, -1, 0)", "wire(7, -1, MIN)");
        Refused.are(due, Scenes::rest, BAD, "wire(-1, 0, 0)", "wire(8, 0, 0)", "wire(0, -2, 0)", "wire(0, 2, 0)",
            "wire(0, MIN, 0)", "wire(0, MAX, 0)", "wire(-1, -1, 0)", "wire(8, -1, 0)");
    }

    @Says("21: An INSTRUMENT is to SPOIL after n openings (0: it is not): n that it had. BAD: n is not 0 .. 1000; BUSY")
    static void spoilNumbers(Due due) {
        Run r = seven(due);
        for (int i = 0; i < 7; i++) {
            r.is("spoil(" + i + ", 1000)", 0).is("spoil(" + i + ", 1)", 1000).is("spoil(" + i + ", 0)", 1).is("spoil(" + i + ", 0)", 0);
        }
        Refused.are(due, Scenes::rest, BAD, "spoil(4, -1)", "spoil(4, 1001)", "spoil(4, MIN)", "spoil(4, MAX)");
    }

    @Says("22: RATIO p / q: 1; 0, if it is no number. BAD: p, q are not 0 .. 1000, or q alone is 0; BUSY; KIND: it has none")
    static void tuneNumbers(Due due) {
        for (int i : TUNED) {
            seven(due).is("tune(" + i + ", 0, 1)", 1).is("tune(" + i + ", 0, 1000)", 1).is("tune(" + i + ", 1000, 1)", 1)
                .is("tune(" + i + ", 1000, 1000)", 1).isWith(0, "tune(" + i + ", 0, 0)", 0).is("tune(" + i + ", 1, 1)", 1)
                .is("mute(" + i + ")", 0);
        }
        Refused.are(due, Scenes::rest, BAD, "tune(0, -1, 1)", "tune(0, 1001, 1)", "tune(0, 1, -1)", "tune(0, 1, 1001)",
            "tune(0, 1, 0)", "tune(0, 1000, 0)", "tune(0, MIN, 1)", "tune(0, 1, MIN)", "tune(0, MAX, MAX)", "tune(0, -1, 0)");
        Refused.are(due, Scenes::rest, KIND, "tune(3, 1, 1)", "tune(6, 1, 1)", "tune(7, 0, 0)", "tune(3, 0, 0)");
        Refused.are(due, Scenes::rest, BAD, "tune(3, 1, 0)", "tune(6, 1001, 1)", "tune(7, 0, -1)");
    }

    @Says("23: BASE is v / 16.0: 1. BAD: v is not 1 .. 32000; BUSY")
    static void baseNumbers(Due due) {
        Run r = seven(due).isWith(0, "base(1)", 1);
        frequency(r, 0, 0.0625).isWith(0, "base(32000)", 1);
        frequency(r, 0, 2000.0).is("base(31999)", 1);
        frequency(r, 0, 1999.9375);
        Refused.are(due, Scenes::rest, BAD, "base(0)", "base(-1)", "base(32001)", "base(MIN)", "base(MAX)");
    }

    @Says("24: FREQUENCY, as Double.doubleToLongBits tells it (no number: 0x7ff8000000000000)")
    static void frequencyBits(Due due) {
        Run r = seven(due);
        for (int v = 1; v <= 16384; v *= 2) frequency(r.is("base(" + v + ")", 1), 0, v / 16.0);
        for (int v = 2; v <= 32768; v *= 2) {
            if (v <= 32000) frequency(r.is("base(" + (v - 1) + ")", 1), 0, (v - 1) / 16.0);
        }
        r.is("base(32000)", 1).is("tune(0, 1000, 1)", 1).is("tune(5, 1000, 1)", 1);
        frequency(r, 0, 2000000.0);
        frequency(r, 5, 2000000.25);
        r.is("base(1)", 1).is("tune(1, 1, 1000)", 1).is("tune(0, 1, 1000)", 1);
        frequency(r, 1, 0.0625 * 0.001 / 2.0);
        frequency(r, 0, 0.0625 * 0.001).is("tune(0, 0, 9)", 1).is("frequency(0)", 0).is("status()", 0);
        r.is("tune(0, 0, 0)", 0).is("frequency(0)", NO_NUMBER).is("status()", 0);
    }

    @Says("24: BAD; KIND: a DRUM")
    static void frequencyRefused(Due due) {
        Refused.areZero(due, Scenes::rest, 5, "frequency(3)");
        Refused.areZero(due, Scenes::rest, BAD, "frequency(-1)", "frequency(8)", "frequency(MIN)", "frequency(MAX)");
        seven(due).does("frequency(3)").row("trace(*)", new long[17]);
    }

    @Says("25: Whether it is MUTE: 1, 0. BAD; KIND: a DRUM")
    static void muteOrNot(Due due) {
        seven(due).row("mute(*)", 0, 0, 0, KIND, 0, 0, 1, BAD).does("couple(6, 3)").is("mute(6)", 1).does("couple(6, 0)")
            .is("mute(6)", 0).is("tune(0, 0, 1)", 1).is("mute(0)", 0).is("mute(6)", 0).is("tune(0, 0, 0)", 0).is("mute(6)", 1);
        Refused.are(due, Scenes::rest, KIND, "mute(3)");
        seven(due).does("mute(3)").row("trace(*)", new long[17]);
    }

    @Says("26: By their FREQUENCIES: 1 the first is higher, 2 as high, 3 lower; 0 none of these")
    static void higherOrNot(Due due) {
        Run r = seven(due).is("base(7040)", 1).is("tune(0, 999, 1000)", 1).is("tune(4, 1, 1)", 1);
        r.is("higher(0, 4)", 3).is("higher(4, 0)", 1).is("tune(0, 1, 1)", 1).is("higher(0, 4)", 2).is("higher(4, 0)", 2);
        r.is("higher(0, 0)", 2).is("tune(0, 0, 1)", 1).is("tune(4, 0, 7)", 1).is("higher(0, 4)", 2).is("higher(0, 1)", 3);
        r.is("tune(0, 0, 0)", 0).are(0, "higher(0, 4)", "higher(4, 0)", "higher(0, 0)", "higher(6, 0)", "higher(6, 6)");
        r.is("higher(4, 6)", 0).is("status()", 0);
    }

    @Says("26: (that of the first, then of the other one)")
    static void higherDoesBoth(Due due) {
        Run r = seven(due).is("tune(1, 0, 0)", 0).is("higher(1, 4)", 0).is("trace(9)", 1).is("trace(8)", 1).is("trace(11)", 1);
        r.is("higher(4, 1)", 0).is("trace(9)", 2).is("trace(8)", 2).is("trace(11)", 2);
    }

    @Says("26: BAD; KIND: one is a DRUM (ahead of both)")
    static void higherRefused(Due due) {
        seven(due).are(KIND, "higher(3, 0)", "higher(0, 3)", "higher(3, 3)").row("trace(*)", new long[17]);
        Refused.are(due, Scenes::rest, KIND, "higher(3, 0)", "higher(0, 3)", "higher(3, 3)");
        Refused.are(due, Scenes::rest, BAD, "higher(3, 8)", "higher(8, 3)", "higher(-1, 3)", "higher(3, -1)");
        Refused.are(due, Scenes::busy, BUSY, "tune(0, 1, 1)", "base(1)", "spoil(0, 0)");
    }
}
