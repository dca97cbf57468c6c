/** Section 4 and promises 27 to 38 at their edges. */
public final class PlayingEdgesTest {
    private static final int BAD = Run.BAD, BUSY = Run.BUSY, NONE = Run.NONE;

    public static void main(String[] args) {
        Due.runAll(PlayingEdgesTest.class);
    }

    /**
     * INSTRUMENTS 0 .. 6 by their KINDS at PLACES 0 .. 6 of CHEST 0, PLACE 7 is empty; TRACK t goes to PLACE t; ROLL 0
     * has no STRIPS.
     */
    private static Run organ(Due due) {
        Run r = new Run(due).is("chest(7, 8)", 0).is("roll()", 0);
        for (int i = 0; i < 7; i++) r.is("instrument(" + i + ")", i).is("place(0, " + i + ", " + i + ")", 1);
        for (int t = 0; t < 8; t++) r.is("wire(" + t + ", 0, " + t + ")", 1);
        return r;
    }

    /** ROLL 0 with nothing but TICKS. */
    private static Run silence(Due due, int strips) {
        Run r = new Run(due).is("roll()", 0);
        for (int s = 0; s < strips; s++) r.does("strip(0, 0, 0, 0, 256)");
        return r;
    }

    // ---- section 4

    @Says("section 4: TRACKS 0 .. 7 have a WIRE to a PLACE of a CHEST (none at first), a HOLE, a LEVEL")
    static void noWireAtFirst(Due due) {
        Run r = new Run(due).does("instrument(0)", "chest(7, 1)", "place(0, 0, 0)", "roll()").strip(0, 1, 255).does("play(0)");
        r.is("tick(1)", 1).row("open(*)", 0, 0, 0, 0, 0, 0, 0, 0).is("count(3)", 1).is("trace(14)", 0);
        for (int t = 0; t < 8; t++) {
            r = new Run(due).does("instrument(0)", "chest(7, 1)", "place(0, 0, 0)", "roll()", "wire(" + t + ", 0, 0)");
            r.strip(0, 1, 255).does("play(0)").is("tick(1)", 1).event(1, 1, 0, 0, t).is("count(3)", 2).is("open(" + t + ")", 1);
        }
    }

    @Says("section 4: OPENED (of: the INSTRUMENT; its TRACK): the last INSTRUMENT by the last TRACK, at the last PLACE of the last CHEST")
    static void lastOfAll(Due due) {
        Run r = new Run(due).does("roll()");
        for (int i = 0; i < 60; i++) r.does("instrument(4)");
        for (int c = 0; c < 16; c++) r.does("chest(4, " + (c < 15 ? 0 : 200) + ")");
        r.is("place(15, 199, 59)", 1).is("wire(7, 15, 199)", 1).strip(0, 2, 128, 0).strip(2, 1, 'p').strip(0, 1, 128).does("play(0)");
        r.is("tick(1)", 1).is("sounding(0, 0)", 59).is("sounding(0, 1)", 7).is("loud(0)", 995).is("tick(1)", 1).is("times(59, 0)", 1);
        r.is("times(59, 1)", 1).is("times(58, 0)", 0).is("times(58, 1)", 0).event(1, 1, 0, 59, 7).event(2, 2, 1, 59, 7);
        r.is("tick(2)", 2).is("open(7)", 0).is("times(59, 0)", 1);
    }

    @Says("section 4: what came by its opening is ENDED: a COUPLER of 40 levels")
    static void fortyLevels(Due due) {
        Run r = new Run(due).does("roll()");
        for (int i = 0; i < 40; i++) r.does("instrument(" + (i < 39 ? 6 : 0) + ")");
        for (int i = 0; i < 39; i++) r.does("couple(" + i + ", " + (i + 1) + ")");
        r.does("chest(6, 1)", "place(0, 0, 0)", "wire(0, 0, 0)", "spoil(39, 2)").strip(0, 3, 1, 0, 1).does("play(0)");
        r.is("tick(1)", 1).is("open(0)", 40).is("sounding(39, 0)", 39).is("loud(39)", 1019).is("loud(0)", 0).is("tick(1)", 1);
        r.event(41, 2, 1, 39, 0).event(80, 2, 1, 0, 0).is("count(3)", 81).is("tick(1)", 1).is("open(0)", 0).is("count(3)", 160);
        r.event(119, 1, 2, 38, 0).event(120, 2, 2, 38, 0).event(158, 2, 2, 0, 0).event(159, 3, 2, 0, 10).is("count(4)", 0);
    }

    @Says("section 4: the most that can sound: 8 TRACKS, each with a COUPLER of SIZE 40")
    static void allThatCanSound(Due due) {
        Run r = new Run(due);
        Scenes.allSizes(r);
        r.does("chest(6, 1)", "place(0, 0, 0)", "roll()");
        for (int t = 0; t < 8; t++) r.does("wire(" + t + ", 0, 0)");
        r.strip(0, 4, 255, 127, 255, 254).does("play(0)").is("tick(1)", 1).is("count(4)", 320).is("open(7)", 40).is("count(3)", 321);
        r.is("sounding(0, 0)", 0).is("sounding(319, 0)", 3).is("sounding(319, 1)", 7).is("sounding(319, 2)", 1).is("sounding(320, 0)", NONE);
        r.is("loud(319)", 1019).is("loud(320)", NONE).is("tick(1)", 1).is("count(4)", 280).is("sounding(280, 0)", NONE).is("open(7)", NONE);
        r.is("tick(1)", 1).is("count(4)", 320).is("sounding(319, 2)", 1).is("sounding(279, 2)", 3).is("tick(1)", 1).is("count(4)", 280);
        r.is("sounding(0, 1)", 1).is("sounding(279, 1)", 7).is("back(2)", 2).is("count(4)", 280).is("sounding(0, 1)", 0).is("back(1)", 1);
        r.is("sounding(319, 1)", 7).is("count(4)", 320).is("halt()", 320).is("times(3, 0)", 240).is("times(3, 1)", 240);
    }

    @Says("section 4: When a ROLL begins: no HOLE is open, LEVELS are 1000, the STOPS of all 16 CHESTS are drawn, TEMPO is 24, BEAT, PHASE, TICKS GONE are 0, no EVENTS, nothing was OPENED or ENDED, no STRIP is at hand")
    static void whenARollBegins(Due due) {
        Run r = organ(due).strip(0, 4, 255, 255, 3).strip(1, 0, 0x8005).strip(2, 0, 'a', 'p').strip(3, 3, 60 << 16 | 2);
        for (int round = 0; round < 2; round++) {
            r.is("play(0)", 4).row("open(*)", NONE, NONE, NONE, NONE, NONE, NONE, NONE, NONE);
            r.row("level(*)", 1000, 1000, 1000, 1000, 1000, 1000, 1000, 1000).row("at(*)", 24, 0, 0, 0, NONE, 0, 0, 1);
            r.row("stop(*)", 1, 1, 1, 1, 1, 1, 1, 1, 1, 1, 1, 1, 1, 1, 1, 1).is("count(3)", 0).is("count(4)", 0);
            r.is("event(0, 0)", NONE).row("times(*, 0)", 0, 0, 0, 0, 0, 0, 0).row("times(*, 1)", 0, 0, 0, 0, 0, 0, 0);
            r.is("back(1)", NONE).is("tick(6)", 6).is("at(0)", 24 - 1).is("level(7)", 5).is("stop(15)", 0).does("halt()");
        }
    }

    @Says("section 4: TEMPO that goes on does not go on in the ROLL that begins then")
    static void nothingGoesOnAnew(Due due) {
        Run r = silence(due, 1).strip(3, 1, 9 << 16 | 99).does("roll()", "strip(1, 0, 0, 0, 9)", "cut(0, 1)", "play(2)");
        r.is("tick(1)", 1).is("at(0)", 32).does("halt()", "play(1)").is("tick(1)", 1).is("at(0)", 24).is("at(2)", 1);
    }

    @Says("section 4: (a) as long as no STRIP is at hand, or its TICKS are all over: the next one (the first) begins")
    static void theNextOne(Due due) {
        Run r = silence(due, 0).does("strip(0, 0, 0, 0, 1)", "strip(0, 0, 0, 0, 2)", "strip(0, 0, 0, 0, 256)", "play(0)");
        r.is("at(4)", NONE).is("tick(1)", 1).is("at(4)", 0).is("at(5)", 1).is("count(3)", 1).is("tick(1)", 1).is("at(4)", 1);
        r.is("at(5)", 1).is("count(3)", 2).is("tick(1)", 1).is("at(4)", 1).is("at(5)", 2).is("count(3)", 2).is("tick(255)", 255);
        r.is("at(4)", 2).is("at(5)", 255).is("tick(1)", 1).is("at(5)", 256).is("at(7)", 1).is("tick(1)", 0).is("at(7)", 0);
        r.event(0, 0, 0, 0, 0).event(1, 0, 1, 1, 0).event(2, 0, 3, 2, 0).is("count(3)", 3);
    }

    @Says("section 4: if there is none, THE ROLL IS OVER: all that sounds is ENDED, the latest first, all HOLES are shut, nothing is PLAYED any more (this is no TICK)")
    static void theRollIsOver(Due due) {
        Run r = organ(due).strip(0, 3, 1, 9, 0x8b).does("play(0)").is("tick(3)", 3).is("count(4)", 3).is("count(3)", 5);
        r.is("tick(1)", 0).is("status()", 0).event(5, 2, 3, 1, 1).event(6, 2, 3, 3, 3).event(7, 2, 3, 0, 0).is("count(3)", 8);
        r.is("at(7)", 0).is("at(3)", 3).is("at(8)", 3).is("open(0)", NONE).is("open(7)", NONE).is("count(4)", 0).is("roll()", 1);
        r.is("play(1)", 0).is("tick(500)", 0).is("at(7)", 0).is("at(4)", NONE).is("count(3)", 0);
    }

    @Says("section 4: A STRIP that begins is READ: EVENT 0 (of: its place; its FINDING, or 0)")
    static void stripThatBegins(Due due) {
        String[] breaks = {"status()", "lose(0, 1)", "tear(0, 1, 8)", "damage(0, 1, 3, 128)", "damage(0, 1, 0, 1)",
            "tear(0, 1, 11)", "damage(0, 1, 4, 2)", "damage(0, 1, 10, 1)"};
        int[] findings = {0, 1, 2, 3, 5, 7, 8, 9};
        for (int i = 0; i < breaks.length; i++) {
            for (int ticks = 0; ticks < 3; ticks++) {
                Run r = organ(due).strip(0, 1, 5).strip(0, ticks, 4, 6, 4).strip(0, 1, 8).does(breaks[i], "play(0)");
                r.is("tick(" + (1 + ticks) + ")", 1 + ticks);
                r.is("tick(1)", 1).event(3, 0, 1, 1, findings[i]).is("at(4)", 2);
            }
        }
    }

    @Says("section 4: With a FINDING all that sounds is ENDED, the latest first, all HOLES are shut, and its TICKS pass without more")
    static void stripWithAFinding(Due due) {
        Run r = organ(due).strip(0, 1, 0x8d).strip(0, 3, 255, 255, 255).strip(0, 1, 1).does("damage(0, 1, 8, 1)", "play(0)");
        r.is("tick(2)", 2).row("at(*)", 24, 0, 2, 2, 1, 1, 0, 1).event(5, 0, 1, 1, 9).event(6, 2, 1, 3, 3).event(7, 2, 1, 2, 2);
        r.event(8, 2, 1, 0, 0).is("count(3)", 9).row("open(*)", NONE, NONE, NONE, NONE, NONE, NONE, NONE, NONE);
        r.is("tick(2)", 2).is("at(5)", 3).is("count(3)", 9).is("tick(1)", 1).event(10, 1, 4, 0, 0).is("sounding(0, 2)", 1);
    }

    @Says("section 4: One of 0 TICKS that is WHOLE does all its ELEMENTS then, in order")
    static void stripOfNoTicks(Due due) {
        int[] rows = new int[256];
        for (int k = 0; k < 256; k++) rows[k] = k % 2 == 0 ? 1 : 0;
        Run r = organ(due).strip(0, 0, rows).strip(0, 0).strip(1, 0, 0x1001, 0x1002, 0x2003).strip(0, 1).does("play(0)");
        r.is("tick(1)", 1).is("count(3)", 1 + 256 + 3).is("times(0, 0)", 128).is("times(0, 1)", 128).row("level(*)", 1000, 2, 3);
        r.event(1, 1, 0, 0, 0).event(256, 2, 0, 0, 0).event(257, 0, 0, 1, 0).is("at(4)", 3).is("at(3)", 1);
        r = organ(due).strip(0, 0, 1).does("damage(0, 0, 8, 1)").strip(0, 1).does("play(0)").is("tick(1)", 1);
        r.is("count(3)", 2).event(0, 0, 0, 0, 9).is("times(0, 0)", 0);
    }

    @Says("section 4: (b) The STRIP at hand, if it is WHOLE, does its ELEMENT by how many of its TICKS are over, if there is such a one")
    static void elementByTicks(Due due) {
        Run r = organ(due).strip(1, 4, 0x0001, 0x0002).strip(1, 2, 0x0003, 0x0004, 0x0005).does("play(0)");
        for (int level : new int[] {1, 2, 2, 2, 3, 4}) r.is("tick(1)", 1).is("level(0)", level);
        r.is("tick(1)", 0).is("level(0)", 4);
        r = organ(due).strip(0, 256, new int[256]).does("punch(0, 0, 255, 1)", "play(0)").is("tick(255)", 255).is("count(4)", 0);
        r.is("tick(1)", 1).is("count(4)", 1).is("at(5)", 256);
    }

    @Says("section 4: (c) TEMPO goes on; PHASE is one more; is it TEMPO or more: PHASE is 0, BEAT one more")
    static void phaseAndBeat(Due due) {
        Run r = silence(due, 1).strip(3, 9, 3, 3, 1, 1, 65535).does("play(0)").is("tick(23)", 23).is("at(1)", 0).is("at(2)", 23);
        r.is("tick(1)", 1).is("at(1)", 1).is("at(2)", 0).is("tick(24)", 24).is("at(1)", 2).is("at(2)", 0).is("tick(208)", 208);
        r.is("at(1)", 10).is("at(2)", 16).is("tick(1)", 1).is("at(1)", 11).is("at(2)", 0).is("tick(1)", 1).is("at(2)", 1);
        r.is("tick(1)", 1).is("at(1)", 12).is("at(2)", 0).is("tick(1)", 1).is("at(1)", 13).is("tick(1)", 1).is("at(1)", 13);
        r.is("at(2)", 1).is("at(0)", 65535);
    }

    @Says("section 4: (c) TEMPO goes on, then PHASE is looked at by what TEMPO is then")
    static void phaseByTheNewTempo(Due due) {
        Run r = silence(due, 0).strip(3, 3, 1 << 16 | 1, 0, 1 << 16 | 2).does("play(0)").is("tick(1)", 1).is("at(0)", 1);
        r.is("at(1)", 1).is("at(2)", 0).is("tick(1)", 1).is("at(1)", 2).is("tick(1)", 1).is("at(0)", 2).is("at(1)", 2).is("at(2)", 1);
    }

    @Says("section 4: HOLES: by its bits 0 .. 7, TRACK by TRACK: 1: is the HOLE shut, it opens; 0: is it open, it is shut")
    static void holesByBits(Due due) {
        for (int t = 0; t < 8; t++) {
            Run r = organ(due).is("place(0, 7, 0)", 1).strip(0, 4, 1 << t, 1 << t, 255 ^ 1 << t, 1 << t).does("play(0)", "tick(1)");
            for (int other = 0; other < 8; other++) r.is("open(" + other + ")", other == t ? 1 : NONE);
            r.is("count(3)", 2).is("tick(1)", 1).is("count(3)", 2).is("tick(1)", 1).is("count(3)", 10);
            for (int other = 0; other < 8; other++) r.is("open(" + other + ")", other == t ? NONE : 1);
            for (int k = 0; k < 8; k++) r.event(2 + k, k == t ? 2 : 1, 2, k == 7 ? 0 : k, k);
        }
    }

    @Says("section 4: One that opens: has its TRACK no WIRE, or is the STOP of that CHEST not drawn: nothing more")
    static void opensWithoutMore(Due due) {
        Run r = organ(due).does("wire(0, -1, 0)", "chest(7, 0)", "wire(2, 1, 5)").strip(2, 0, 'b').strip(0, 2, 5, 0);
        r.does("play(0)", "tick(1)").row("open(*)", 0, NONE, 0).is("count(3)", 2).is("tick(1)", 1).row("open(*)", NONE, NONE, NONE);
        r.is("count(3)", 2).is("trace(14)", 0).is("trace(16)", 0);
    }

    @Says("section 4: TORN: there is no such PLACE; LOST: it is empty; else its INSTRUMENT is OPENED (SPOILT): EVENT 3 (of: the TRACK; its FINDING) if one of these is met")
    static void opensWithAFinding(Due due) {
        Run r = organ(due).does("wire(4, 0, 8)", "wire(5, 0, -1)", "wire(6, 0, 7)", "spoil(3, 1)").strip(0, 2, 0x78);
        r.does("play(0)", "tick(1)").event(1, 3, 0, 3, 10).event(2, 3, 0, 4, 2).event(3, 3, 0, 5, 2).event(4, 3, 0, 6, 1);
        r.is("count(3)", 5).row("open(*)", NONE, NONE, NONE, 0, 0, 0, 0, NONE).is("count(4)", 0).is("status()", 0);
        r.is("tick(1)", 1).is("count(3)", 5);
    }

    @Says("section 4: One that is shut: what came by its opening is ENDED, the latest first")
    static void shutEndsItsOwn(Due due) {
        Run r = organ(due).does("couple(6, 0)", "couple(6, 1)").strip(0, 3, 65, 193, 1).does("play(0)").is("tick(2)", 2);
        r.is("count(4)", 4).is("tick(1)", 1).event(6, 2, 2, 1, 6).event(7, 2, 2, 0, 6).event(8, 2, 2, 6, 6).is("count(3)", 9);
        r.is("count(4)", 1).is("sounding(0, 1)", 0);
    }

    @Says("section 4: LEVELS: the LEVEL of TRACK (e >> 12) & 7, or, if e is below 0, of all of them, is e & 4095")
    static void levelsOfTracks(Due due) {
        for (int t = 0; t < 8; t++) {
            long[] want = {1000, 1000, 1000, 1000, 1000, 1000, 1000, 1000};
            want[t] = 4095;
            organ(due).strip(1, 1, t << 12 | 4095).does("play(0)", "tick(1)").row("level(*)", want);
            want[t] = 0;
            organ(due).strip(1, 1, t << 12).does("play(0)", "tick(1)").row("level(*)", want);
        }
        for (int e : new int[] {0x8000, 0xffff, 0x8001, 0xf000}) {
            long v = e & 4095;
            organ(due).strip(1, 1, e).does("play(0)", "tick(1)").row("level(*)", v, v, v, v, v, v, v, v).row("at(*)", 24, 0, 1, 1, 0, 1, 1)
                .does("halt()").row("spoil(*, 0)", 0, 0, 0, 0, 0, 0, 0).row("times(*, 0)", 0, 0, 0, 0, 0, 0, 0);
        }
    }

    @Says("section 4: STOPS: A .. P: the STOP of CHEST 0 .. 15 is drawn, a .. p: it is not (others: nothing)")
    static void stopsByLetters(Due due) {
        for (int c = 0; c < 16; c++) {
            Run r = organ(due).strip(2, 2, 'a' + c, 'A' + c).does("play(0)", "tick(1)");
            for (int other = 0; other < 16; other++) r.is("stop(" + other + ")", other == c ? 0 : 1);
            r.is("tick(1)", 1).is("stop(" + c + ")", 1);
        }
    }

    @Says("section 4: (others: nothing)")
    static void stopsByOthers(Due due) {
        int[] none = new int[16];
        for (int c = 0; c < 16; c++) none[c] = 'a' + c;
        for (int first = 0; first < 65536; first = first == 256 ? 65280 : first + 64) {
            int[] others = new int[64];
            for (int k = 0; k < 64; k++) {
                int letter = first + k;
                boolean told = letter >= 'A' && letter <= 'P' || letter >= 'a' && letter <= 'p';
                others[k] = told ? letter + 256 : letter;
            }
            Run drawn = organ(due).strip(2, 0, others).strip(0, 1, 1).does("play(0)", "tick(1)").is("loud(0)", 1019);
            drawn.row("stop(*)", 1, 1, 1, 1, 1, 1, 1, 1, 1, 1, 1, 1, 1, 1, 1, 1);
            Run still = organ(due).strip(0, 0, 1).strip(2, 0, none).strip(2, 0, others).strip(0, 1, 1).does("play(0)", "tick(1)");
            still.row("stop(*)", new long[16]).is("loud(0)", 1003);
        }
    }

    @Says("section 4: TEMPO: t is v & 65535, r v >>> 16; t 0: nothing (what goes on goes on)")
    static void tempoNothing(Due due) {
        Run r = silence(due, 0).strip(3, 6, 4 << 16 | 44, 0, 9 << 16, 0x80000000).does("play(0)");
        for (int tempo : new int[] {29, 34, 39, 44, 44, 44}) r.is("tick(1)", 1).is("at(0)", tempo);
    }

    @Says("section 4: r 0: TEMPO is t at once (nothing goes on)")
    static void tempoAtOnce(Due due) {
        Run r = silence(due, 0).strip(3, 5, 9 << 16 | 99, 7, 0, 65535, 1).does("play(0)");
        for (int tempo : new int[] {32, 7, 7, 65535, 1}) r.is("tick(1)", 1).is("at(0)", tempo);
    }

    @Says("section 4: going on for the k-th time (k 1 .. r) it is from + floor(((t - from) * k * 2 + r) / (2 * r)), exactly")
    static void tempoExactly(Due due) {
        Run one = silence(due, 0).strip(3, 3, 1 << 16 | 65535).does("play(0)");
        for (int tempo : new int[] {65535, 65535}) one.is("tick(1)", 1).is("at(0)", tempo);
        Run up = silence(due, 0).strip(3, 5, 4 << 16 | 26).does("play(0)");
        for (int tempo : new int[] {25, 25, 26, 26, 26}) up.is("tick(1)", 1).is("at(0)", tempo);
        Run down = silence(due, 0).strip(3, 5, 4 << 16 | 22).does("play(0)");
        for (int tempo : new int[] {24, 23, 23, 22, 22}) down.is("tick(1)", 1).is("at(0)", tempo);
        Run same = silence(due, 0).strip(3, 3, 2 << 16 | 24).does("play(0)");
        for (int tempo : new int[] {24, 24, 24}) same.is("tick(1)", 1).is("at(0)", tempo);
        Run far = silence(due, 0).strip(3, 0, 65535).strip(3, 256, 65535 << 16 | 1).strip(3, 256);
        far.does("play(0)").is("tick(1)", 1).is("at(0)", 65534).is("tick(499)", 499).is("at(0)", 65035);
        Run most = silence(due, 0).strip(3, 0, 1).strip(3, 256, 300 << 16 | 65535).strip(3, 256).does("play(0)");
        most.is("tick(299)", 299).is("at(0)", 1 + Math.floorDiv(65534 * 299 * 2 + 300, 600)).is("tick(1)", 1).is("at(0)", 65535);
        most.is("tick(1)", 1).is("at(0)", 65535);
    }

    @Says("section 4: (t - from) * k * 2 wraps around no int")
    static void tempoDoesNotWrap(Due due) {
        Run r = silence(due, 0).strip(3, 0, 1).strip(3, 256, 65535 << 16 | 65535);
        for (int s = 0; s < 67; s++) r.does("strip(0, 0, 0, 0, 256)");
        r.does("play(0)");
        for (int i = 0; i < 34; i++) r.is("tick(500)", 500);
        long top = 65534L * 17000 * 2 + 65535;
        due.is("it is beyond an int", top > Integer.MAX_VALUE ? 1 : 0, 1);
        r.is("at(0)", 1 + Math.floorDiv(top, 131070L));
    }

    @Says("section 4: (c) TEMPO goes on: in the TICKS of a STRIP with a FINDING, too; (d) TICKS GONE is one more")
    static void tempoThroughAFinding(Due due) {
        Run r = silence(due, 0).strip(3, 1, 4 << 16 | 4).strip(3, 2, 99, 99).strip(0, 2).does("lose(0, 1)", "play(0)");
        int[] tempi = {19, 14, 9, 4, 4};
        for (int k = 0; k < 5; k++) r.is("tick(1)", 1).is("at(0)", tempi[k]).is("at(3)", k + 1);
        r.is("at(1)", 1).is("at(2)", 1).event(1, 0, 1, 1, 1);
    }

    @Says("section 4: Else it goes from what it is to t")
    static void tempoFromWhatItIs(Due due) {
        Run r = silence(due, 0).strip(3, 4, 10 << 16 | 34, 2 << 16 | 5, 2 << 16 | 25).does("play(0)");
        for (int tempo : new int[] {25, 15, 20, 25}) r.is("tick(1)", 1).is("at(0)", tempo);
    }

    @Says("section 4: EVENTS besides: 1 OPENED (of: the INSTRUMENT; its TRACK), 2 ENDED (likewise)")
    static void openedAndEnded(Due due) {
        Run r = organ(due).does("wire(7, 0, 2)").strip(0, 2, 0x80, 0).does("play(0)", "tick(2)").event(1, 1, 0, 2, 7).event(2, 2, 1, 2, 7);
        r.is("count(3)", 3);
    }

    @Says("section 4: The first 1500 are kept, all are counted")
    static void eventsKept(Due due) {
        Run r = organ(due).does("place(0, 7, 0)");
        int[] rows = new int[188];
        for (int k = 0; k < 188; k += 2) rows[k] = 255;
        r.strip(0, 0, rows).strip(0, 3, 255, 0).does("play(0)").is("tick(1)", 1).is("count(3)", 1 + 188 * 8 + 1 + 8);
        r.event(1499, 2, 0, 2, 2).is("event(1500, 0)", NONE).is("event(1501, 3)", NONE).is("tick(1)", 1).is("count(3)", 1522);
        r.is("event(1500, 0)", NONE).is("back(1)", 1).is("count(3)", 1514).event(1499, 2, 0, 2, 2).is("back(1)", 0).is("count(3)", 0);
        r.is("event(0, 0)", NONE).is("event(1499, 0)", NONE).is("tick(1)", 1).event(1499, 2, 0, 2, 2).is("event(1500, 0)", NONE);
    }

    @Says("section 4: 20000 TICKS are there for all PLAYING")
    static void allTicks(Due due) {
        Run r = silence(due, 79).strip(0, 2, 0, 0).does("play(0)");
        for (int i = 0; i < 20; i++) r.is("tick(500)", 500);
        r.is("back(500)", 9500).is("at(8)", 10000).does("halt()", "play(0)");
        for (int i = 0; i < 19; i++) r.is("tick(500)", 500);
        r.is("tick(499)", 499).is("at(8)", 19999).isWith(0, "tick(2)", 1).is("at(8)", 20000).isWith(0, "tick(1)", 0).is("tick(0)", 0);
        r.is("at(3)", 10000).is("at(7)", 1).is("back(500)", 9500).is("tick(1)", 0).is("at(3)", 9500).is("halt()", 0);
        r.is("play(0)", 80).is("tick(500)", 0).row("at(*)", 24, 0, 0, 0, NONE, 0, 0, 1, 20000);
    }

    // ---- promises

    @Says("27: A ROLL begins: how many STRIPS it has. BAD, BUSY")
    static void playFirstAndLast(Due due) {
        Run r = new Run(due).is("play(0)", BAD).is("roll()", 0).is("play(1)", BAD).is("play(-1)", BAD).isWith(0, "play(0)", 0);
        r.isWith(BUSY, "play(0)", BUSY).is("play(1)", BAD).is("at(7)", 1).is("tick(1)", 0).is("play(0)", 0).is("halt()", 0);
        for (int i = 1; i < 20; i++) r.is("roll()", i);
        r.is("strip(19, 0, 0, 0, 1)", 0).is("play(20)", BAD).is("play(19)", 1).is("tick(2)", 1);
        Run scene = new Run(due);
        Scenes.rest(scene);
        scene.is("play(1)", 5).does("halt()").is("play(0)", 4).does("halt()").is("play(2)", 0);
        Refused.are(due, Scenes::busy, BUSY, "play(0)", "play(1)", "play(2)");
        Refused.are(due, Scenes::busy, BAD, "play(-1)", "play(3)", "play(MIN)", "play(MAX)");
    }

    @Says("28: So many TICKS, or till THE ROLL IS OVER")
    static void tickTillOver(Due due) {
        Run r = silence(due, 2).does("play(0)").is("tick(500)", 500).is("at(7)", 1).is("tick(12)", 12).is("at(7)", 1);
        r.is("at(5)", 256).isWith(0, "tick(500)", 0).is("at(7)", 0).isWith(0, "tick(500)", NONE);
        r.does("play(0)").is("tick(500)", 500).is("tick(500)", 12).is("at(7)", 0).is("at(3)", 512);
        silence(due, 1).does("play(0)").is("tick(256)", 256).is("at(7)", 1).is("tick(0)", 0).is("at(7)", 1).is("tick(1)", 0).is("at(7)", 0);
    }

    @Says("28: or none is there any more (then nothing is done)")
    static void tickWithNoneThere(Due due) {
        Run r = organ(due);
        for (int s = 0; s < 79; s++) r.does("strip(0, 0, 0, 0, 256)");
        r.does("roll()", "strip(1, 0, 0, 1, 0)", "punch(1, 0, 0, 1)", "strip(1, 0, 0, 0, 5)", "play(0)");
        for (int i = 0; i < 40; i++) r.is("tick(500)", 500);
        r.does("halt()").is("play(1)", 2).is("tick(1)", 0).is("status()", 0).is("count(3)", 0).is("at(4)", NONE).is("at(7)", 1);
        r.is("open(0)", NONE).is("trace(14)", 0).is("halt()", 0).does("roll()").is("play(2)", 0).is("tick(1)", 0).is("at(7)", 1);
    }

    @Says("28: BAD: n is not 0 .. 500; NONE: nothing is PLAYED")
    static void tickNumbers(Due due) {
        silence(due, 2).does("play(0)").isWith(0, "tick(0)", 0).is("count(3)", 0).is("at(4)", NONE).isWith(0, "tick(500)", 500);
        Refused.are(due, Scenes::busy, BAD, "tick(-1)", "tick(501)", "tick(MIN)", "tick(MAX)");
        Refused.are(due, Scenes::rest, BAD, "tick(-1)", "tick(501)");
        Refused.are(due, Scenes::rest, NONE, "tick(0)", "tick(1)", "tick(500)");
        Refused.are(due, Scenes::over, NONE, "tick(0)", "tick(500)");
    }

    @Says("29: All that sounds is ENDED, the latest first, all HOLES are shut, nothing is PLAYED any more: how many were ENDED. NONE: nothing is PLAYED")
    static void haltAll(Due due) {
        Run r = organ(due).does("couple(6, 0)").strip(0, 3, 0x80, 0xc1, 0xc1).does("play(0)").isWith(0, "halt()", 0);
        r.isWith(0, "halt()", NONE).does("play(0)").is("tick(2)", 2).isWith(0, "halt()", 3).is("count(3)", 8);
        r.event(5, 2, 2, 0, 6).event(6, 2, 2, 6, 6).event(7, 2, 2, 0, 0).row("at(*)", 24, 0, 2, 2, 0, 2, 1, 0, 2);
        r.row("open(*)", NONE, NONE, NONE, NONE, NONE, NONE, NONE, NONE).is("halt()", NONE).is("seal(0, 0)", 3);
        Refused.are(due, Scenes::rest, NONE, "halt()");
        Refused.are(due, Scenes::over, NONE, "halt()");
        Refused.are(due, Scenes::nothing, NONE, "halt()");
    }

    @Says("30: It can go to what is kept: the latest 501 of how it was as the ROLL began and behind each TICK")
    static void backToWhatIsKept(Due due) {
        Run r = silence(due, 9).does("play(0)").is("back(0)", 0).is("back(1)", NONE).is("tick(500)", 500).is("back(500)", 0);
        r.is("tick(500)", 500).is("tick(1)", 1).is("back(500)", 1).is("back(1)", NONE).is("tick(499)", 499).is("back(500)", NONE);
        r.is("back(499)", 1).is("tick(500)", 500).is("back(500)", 1).is("tick(500)", 500).is("tick(500)", 500).is("back(500)", 501);
        r.is("back(1)", NONE).is("back(0)", 501);
    }

    @Says("30: what it goes back over is kept no more")
    static void backOver(Due due) {
        Run r = silence(due, 9).does("play(0)").is("tick(500)", 500).is("tick(500)", 500).is("back(200)", 800).is("back(301)", NONE);
        r.is("back(300)", 500).is("back(1)", NONE).is("tick(3)", 3).is("back(4)", NONE).is("back(2)", 501).is("back(1)", 500);
        r.is("tick(500)", 500).is("back(500)", 500).is("tick(500)", 500).is("tick(1)", 1).is("back(500)", 501).is("at(8)", 2004);
    }

    @Says("30: of how it was as the ROLL began: what an earlier ROLL kept is not there")
    static void backNotToAnother(Due due) {
        Run r = silence(due, 3).does("play(0)").is("tick(300)", 300).does("halt()").is("back(0)", NONE).does("play(0)");
        r.is("back(0)", 0).is("back(1)", NONE).is("tick(2)", 2).is("back(3)", NONE).is("back(2)", 0).is("tick(500)", 500);
        r.is("tick(500)", 268).is("back(1)", NONE).does("play(0)").is("tick(1)", 1).is("back(2)", NONE).is("back(1)", 0);
    }

    @Says("30: PLAYING is as it was n TICKS ago (what sounds, SPOILING, OPENINGS, EVENTS and all that section 4 names)")
    static void backToAll(Due due) {
        String[] acts = {"back(1)", "back(3)", "back(5)"};
        for (String act : acts) {
            int n = act.charAt(5) - '0';
            Run straight = backScene(due).does("tick(" + (6 - n) + ")");
            Run around = backScene(due).is("tick(6)", 6).is(act, 6 - n);
            long used = 6 - n;
            straight.is("at(8)", used);
            around.is("at(8)", 6);
            String[] questions = {"at(0)", "at(1)", "at(2)", "at(3)", "at(4)", "at(5)", "at(6)", "at(7)", "count(3)", "count(4)"};
            for (int round = 0; round < 5; round++) {
                for (String one : questions) around.is(one, straight.ask(one));
                for (int k = 0; k < 8; k++) {
                    String[] of = {"level(" + k + ")", "open(" + k + ")", "stop(" + k + ")", "sounding(" + k + ", 0)",
                        "sounding(" + k + ", 2)", "times(" + k % 7 + ", 0)", "times(" + k % 7 + ", 1)", "event(" + (3 * k) + ", 2)"};
                    for (String one : of) around.is(one, straight.ask(one));
                }
                around.is("tick(1)", straight.ask("tick(1)"));
            }
            around.does("halt()").is("spoil(0, 0)", straight.does("halt()").ask("spoil(0, 0)"));
        }
    }

    /** A ROLL in which each TICK changes something; it has just begun. */
    private static Run backScene(Due due) {
        return organ(due).does("couple(6, 1)", "spoil(0, 4)").strip(0, 2, 0x41, 0x80).strip(3, 1, 5 << 16 | 3).strip(1, 1, 0x8007)
            .strip(2, 1, 'c').strip(0, 5, 1, 0, 9, 0x41, 1).does("play(0)");
    }

    @Says("30: but neither the TICKS that are there nor what trace() tells): TICKS GONE then")
    static void backDoesNotUndo(Due due) {
        Run r = organ(due).strip(0, 3, 1, 0, 1).does("play(0)").is("tick(3)", 3).is("trace(14)", 2).is("trace(16)", 1);
        r.isWith(0, "back(3)", 0).is("trace(14)", 2).is("trace(16)", 1).is("at(8)", 3).is("at(3)", 0).is("tick(1)", 1);
        r.is("trace(14)", 3).is("at(8)", 4).is("back(0)", 1).is("at(8)", 4);
    }

    @Says("30: BAD: n is not 0 .. 500; NONE: nothing is PLAYED, or that is not kept")
    static void backRefused(Due due) {
        Refused.are(due, Scenes::busy, BAD, "back(-1)", "back(501)", "back(MIN)", "back(MAX)");
        Refused.are(due, Scenes::rest, BAD, "back(-1)", "back(501)");
        Refused.are(due, Scenes::busy, NONE, "back(6)", "back(500)");
        Refused.are(due, Scenes::rest, NONE, "back(0)", "back(5)", "back(500)");
        Refused.are(due, Scenes::over, NONE, "back(0)", "back(1)");
        silence(due, 9).does("play(0)").is("tick(5)", 5).is("back(6)", NONE).is("back(5)", 0).is("back(1)", NONE);
    }

    @Says("31: How many sound by the opening of a TRACK's HOLE; NONE: it is shut. BAD")
    static void openTracks(Due due) {
        Run r = organ(due).does("couple(6, 0)", "couple(6, 0)", "wire(0, -1, 0)").strip(0, 3, 0xc3, 0xc1).does("play(0)");
        r.isWith(0, "open(0)", NONE).is("tick(1)", 1).row("open(*)", 0, 1, NONE, NONE, NONE, NONE, 3, 0).is("tick(1)", 1);
        r.row("open(*)", 0, NONE, NONE, NONE, NONE, NONE, 3, 0).is("tick(1)", 1).is("open(6)", 3);
        Refused.are(due, Scenes::busy, BAD, "open(-1)", "open(8)", "open(MIN)", "open(MAX)");
        Refused.are(due, Scenes::busy, NONE, "open(2)");
    }

    @Says("32: Of THOSE THAT SOUND, as they were OPENED, the k-th (from 0 on): what = 0 its INSTRUMENT, 1 its TRACK, 2 its age: TICKS GONE less those when it was OPENED. NONE. BAD: what, k below 0")
    static void soundingFirstAndLast(Due due) {
        Run r = organ(due).strip(0, 4, 0x28, 0x2a, 0x2b, 0x0b).does("play(0)").isWith(0, "sounding(0, 0)", NONE).is("tick(3)", 3);
        r.row("sounding(*, 0)", 3, 5, 1, 0, NONE).row("sounding(*, 1)", 3, 5, 1, 0, NONE).row("sounding(*, 2)", 3, 3, 2, 1, NONE);
        r.is("tick(1)", 1).row("sounding(*, 0)", 3, 1, 0, NONE).row("sounding(*, 2)", 4, 3, 2, NONE).is("sounding(MAX, 0)", NONE);
        Refused.are(due, Scenes::busy, BAD, "sounding(-1, 0)", "sounding(MIN, 0)", "sounding(0, -1)", "sounding(0, 3)",
            "sounding(0, MIN)", "sounding(0, MAX)", "sounding(99, 3)", "sounding(-1, 3)");
        Refused.are(due, Scenes::busy, NONE, "sounding(99, 0)", "sounding(MAX, 2)");
    }

    @Says("33: Whether the k-th of them is MUTE (a DRUM is not, nor asked): 0; else its LOUD, by the LEVEL of its TRACK and its age. NONE. BAD: k below 0")
    static void loudFirstAndLast(Due due) {
        Run r = organ(due).does("tune(0, 0, 0)").strip(1, 0, 0x1005).strip(0, 2, 0x4f).does("play(0)").is("loud(0)", NONE);
        r.is("tick(1)", 1).row("loud(*)", 0, 31, 1045, 0, 0, NONE).is("loud(-1)", BAD).is("loud(MAX)", NONE);
        r.row("trace(*)", 2, 2, 1, 0, 0, 0, 2, 1, 3, 2, 1, 0, 0, 1);
        organ(due).does("tune(1, 0, 7)").strip(0, 1, 2).does("play(0)", "tick(1)").is("mute(1)", 0).is("loud(0)", 1026);
        Refused.are(due, Scenes::busy, BAD, "loud(-1)", "loud(MIN)");
        Refused.are(due, Scenes::busy, NONE, "loud(99)", "loud(MAX)");
    }

    @Says("34: The LEVEL of a TRACK (0 before a ROLL began). BAD")
    static void levelTracks(Due due) {
        new Run(due).row("level(*)", 0, 0, 0, 0, 0, 0, 0, 0, BAD).is("level(-1)", BAD).is("roll()", 0).is("level(0)", 0)
            .does("play(0)").row("level(*)", 1000, 1000, 1000, 1000, 1000, 1000, 1000, 1000, BAD).does("halt()").is("level(7)", 1000);
        Refused.are(due, Scenes::busy, BAD, "level(-1)", "level(8)", "level(MIN)", "level(MAX)");
    }

    @Says("35: Whether the STOP of CHEST 0 .. 15 is drawn: 1, 0 (0 before a ROLL began). BAD")
    static void stopChests(Due due) {
        new Run(due).is("stop(0)", 0).is("stop(15)", 0).is("stop(-1)", BAD).is("stop(16)", BAD).is("roll()", 0).does("play(0)")
            .is("stop(0)", 1).is("stop(15)", 1).does("tick(1)").is("stop(15)", 1);
        Refused.are(due, Scenes::busy, BAD, "stop(-1)", "stop(16)", "stop(MIN)", "stop(MAX)");
    }

    @Says("36: What = 0 TEMPO, 1 BEAT, 2 PHASE, 3 TICKS GONE, 4 the place of the STRIP at hand (NONE), 5 how many of its TICKS are over, 6 whether it is WHOLE (1, 0), 7 whether a ROLL is PLAYED (1, 0)")
    static void atEach(Due due) {
        Run r = silence(due, 0).strip(3, 2, 3).strip(3, 0, 2).strip(0, 3).strip(0, 1).does("damage(0, 2, 0, 1)", "play(0)");
        int[][] want = {{24, 0, 0, 0, NONE, 0, 0, 1}, {3, 0, 1, 1, 0, 1, 1, 1}, {3, 0, 2, 2, 0, 2, 1, 1}, {2, 1, 0, 3, 2, 1, 0, 1},
            {2, 1, 1, 4, 2, 2, 0, 1}, {2, 2, 0, 5, 2, 3, 0, 1}, {2, 2, 1, 6, 3, 1, 1, 1}};
        for (int gone = 0; gone < want.length; gone++) {
            for (int what = 0; what < 8; what++) r.is("at(" + what + ")", want[gone][what]);
            r.is("at(8)", gone).is("tick(1)", gone < 6 ? 1 : 0);
        }
        r.row("at(*)", 2, 2, 1, 6, 3, 1, 1, 0, 6);
    }

    @Says("36: all 0 (4: NONE) before one began; when it is over as it was then. 8 TICKS that went in all. BAD")
    static void atBeforeAndAfter(Due due) {
        Run r = new Run(due).row("at(*)", 0, 0, 0, 0, NONE, 0, 0, 0, 0, BAD).is("at(-1)", BAD).is("roll()", 0).is("at(0)", 0);
        r.strip(3, 2, 7).strip(3, 1).does("damage(0, 1, 8, 1)", "play(0)").row("at(*)", 24, 0, 0, 0, NONE, 0, 0, 1, 0);
        r.is("tick(500)", 3).row("at(*)", 7, 0, 3, 3, 1, 1, 0, 0, 3).does("seal(0, 1)").is("at(6)", 0).does("cut(0, 0)").is("at(4)", 1);
        r.does("play(1)").is("tick(2)", 2).does("halt()").row("at(*)", 7, 0, 2, 2, 0, 2, 1, 0, 5).does("damage(1, 0, 8, 1)").is("at(6)", 1);
        Refused.are(due, Scenes::busy, BAD, "at(-1)", "at(9)", "at(MIN)", "at(MAX)");
        new Run(due).isWith(0, "at(4)", NONE);
    }

    @Says("37: How often an INSTRUMENT was OPENED (what = 0), ENDED (1) since the latest ROLL began. BAD")
    static void timesSince(Due due) {
        Run r = organ(due).does("wire(1, 0, 0)", "spoil(3, 1)").strip(0, 3, 0x0b, 0x01, 0x03).is("times(0, 0)", 0).does("play(0)");
        r.is("tick(3)", 3).is("times(0, 0)", 3).is("times(0, 1)", 1).is("times(3, 0)", 0).is("times(3, 1)", 0).does("halt()");
        r.is("times(0, 0)", 3).is("times(0, 1)", 3).does("play(0)").is("times(0, 0)", 0).is("times(0, 1)", 0);
        Refused.are(due, Scenes::busy, BAD, "times(0, -1)", "times(0, 2)", "times(0, MIN)", "times(0, MAX)", "times(8, 0)", "times(-1, 1)");
    }

    @Says("38: EVENT k (from 0 on): what = 0 its sort, 1 TICKS GONE then, 2 of what, 3 the rest. NONE. BAD: what, k below 0")
    static void eventFirstAndLast(Due due) {
        Run r = organ(due).strip(0, 3, 0, 2).does("play(0)").isWith(0, "event(0, 0)", NONE).is("tick(2)", 2).event(0, 0, 0, 0, 0);
        r.event(1, 1, 1, 1, 1).is("event(2, 0)", NONE).is("event(MAX, 3)", NONE).does("halt()").event(2, 2, 2, 1, 1).is("event(3, 0)", NONE);
        Refused.are(due, Scenes::busy, BAD, "event(-1, 0)", "event(MIN, 0)", "event(0, -1)", "event(0, 4)", "event(0, MIN)",
            "event(0, MAX)", "event(9999, 4)", "event(-1, 4)");
        Refused.are(due, Scenes::busy, NONE, "event(999, 0)", "event(1499, 0)", "event(1500, 0)", "event(MAX, 3)");
    }
}
