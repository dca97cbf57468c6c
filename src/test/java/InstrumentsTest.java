/** Promises 16 to 26, worked out by hand. */
public final class InstrumentsTest {
    private static final int BAD = -1, FULL = -2, BUSY = -3;
    private static final int TORN = -12, SIZE = -13, KIND = -15, STORE = -16;
    private static final int MIN = Integer.MIN_VALUE, MAX = Integer.MAX_VALUE;
    private static final long NO_NUMBER = 0x7ff8000000000000L;

    private static final Due due = new Due("instruments");

    public static void main(String[] args) {
        instruments();
        coupling();
        sizes();
        chests();
        placing();
        wiring();
        spoiling();
        tuning();
        bases();
        frequencies();
        couplersFrequency();
        muteAndHigher();
        busy();
        due.end();
    }

    /** One INSTRUMENT of each KIND, numbered as their KINDS are. */
    private static Player seven() {
        Player x = new Player();
        for (int kind = 0; kind < 7; kind++) x.instrument(kind);
        return x;
    }

    private static void frequency(Player x, int instrument, double want) {
        due.is("frequency(" + instrument + ")", x.frequency(instrument), Double.doubleToLongBits(want));
    }

    private static void instruments() {
        due.part("promise 16");
        Player x = new Player();
        due.is("instrument(-1)", x.instrument(-1), BAD);
        due.is("instrument(7)", x.instrument(7), BAD);
        for (int i = 0; i < 60; i++) due.is("instrument", x.instrument(i % 7), i);
        due.is("instrument(0)", x.instrument(0), FULL);
        due.is("status()", x.status(), FULL);
        due.is("instrument(7)", x.instrument(7), BAD);
        due.is("count(1)", x.count(1), 60);
    }

    private static void coupling() {
        due.part("promise 17");
        Player x = seven();
        x.instrument(6);
        x.instrument(6);
        due.is("couple(6, 6)", x.couple(6, 6), BAD);
        due.is("couple(6, 9)", x.couple(6, 9), BAD);
        due.is("couple(9, 6)", x.couple(9, 6), BAD);
        due.is("couple(6, -1)", x.couple(6, -1), BAD);
        due.is("couple(6, 7)", x.couple(6, 7), 1);
        due.is("couple(7, 8)", x.couple(7, 8), 1);
        due.is("couple(8, 6)", x.couple(8, 6), BAD);
        due.is("couple(7, 6)", x.couple(7, 6), BAD);
        due.is("status()", x.status(), BAD);
        due.is("couple(6, 8)", x.couple(6, 8), 2);
        due.is("couple(6, 8)", x.couple(6, 8), 3);
        for (int kind = 0; kind < 6; kind++) {
            due.is("couple(" + kind + ", 8)", x.couple(kind, 8), KIND);
            due.is("itself is BAD ahead of KIND", x.couple(kind, kind), BAD);
        }
        due.is("couple(0, 8)", x.couple(0, 8), KIND);
        due.is("status()", x.status(), 5);
        due.is("couple(8, 0)", x.couple(8, 0), 1);
        due.is("one that has it is BAD ahead of KIND", x.couple(0, 8), BAD);
        due.is("so is one that has such a one", x.couple(0, 6), BAD);
        due.is("members(8)", x.members(8), 1);
        for (int n = 2; n <= 8; n++) due.is("couple(8, 3)", x.couple(8, 3), n);
        due.is("couple(8, 3)", x.couple(8, 3), FULL);
        due.is("status()", x.status(), FULL);
        due.is("members(8)", x.members(8), 8);
        due.is("couple(3, 6)", x.couple(3, 6), BAD);
    }

    private static void sizes() {
        due.part("promise 17, SIZES");
        Player x = new Player();
        for (int i = 0; i < 42; i++) x.instrument(6);
        for (int i = 0; i < 39; i++) due.is("couple", x.couple(i, i + 1), 1);
        due.is("the outermost has 40", x.couple(39, 40), FULL);
        due.is("one that is over it has 41", x.couple(40, 0), FULL);
        due.is("the second has room for one", x.couple(1, 41), FULL);
        due.is("members(40)", x.members(40), 0);
        due.is("couple(40, 1)", x.couple(40, 1), 1);
        due.is("couple(40, 41)", x.couple(40, 41), FULL);

        Player y = new Player();
        for (int i = 0; i < 3; i++) y.instrument(6);
        y.instrument(0);
        for (int n = 1; n <= 4; n++) due.is("couple(0, 1)", y.couple(0, 1), n);
        for (int n = 1; n <= 8; n++) due.is("couple(1, 3)", y.couple(1, 3), n);
        for (int n = 5; n <= 7; n++) due.is("couple(0, 3)", y.couple(0, 3), n);
        due.is("1 + 4 * 9 + 3 is 40", y.couple(0, 3), FULL);
        due.is("members(0)", y.members(0), 7);
        due.is("couple(2, 1)", y.couple(2, 1), 1);

        Player z = new Player();
        for (int i = 0; i < 3; i++) z.instrument(6);
        z.instrument(3);
        for (int n = 1; n <= 8; n++) z.couple(0, 1);
        for (int n = 1; n <= 3; n++) due.is("eight times as much above", z.couple(1, 3), n);
        due.is("1 + 8 * 4 is 33, 8 * 5 too many", z.couple(1, 3), FULL);
        due.is("members(1)", z.members(1), 3);
        due.is("1 + 33 is 34", z.couple(2, 0), 1);
        due.is("34 and 4", z.couple(2, 1), 2);
        due.is("38 and 4", z.couple(2, 1), FULL);
        due.is("38 and 1", z.couple(2, 3), 3);
        due.is("39 and 1", z.couple(2, 3), 4);
        due.is("40 and 1", z.couple(2, 3), FULL);
    }

    private static void chests() {
        due.part("promise 18");
        Player x = new Player();
        due.is("chest(-1, 1)", x.chest(-1, 1), BAD);
        due.is("chest(8, 1)", x.chest(8, 1), BAD);
        due.is("chest(8, -1)", x.chest(8, -1), BAD);
        due.is("chest(0, -1)", x.chest(0, -1), SIZE);
        due.is("chest(0, MIN)", x.chest(0, MIN), SIZE);
        due.is("status()", x.status(), 3);
        due.is("chest(0, 201)", x.chest(0, 201), FULL);
        due.is("chest(0, MAX)", x.chest(0, MAX), FULL);
        for (int c = 0; c < 15; c++) due.is("chest", x.chest(c % 8, 13), c);
        due.is("chest(0, 6)", x.chest(0, 6), FULL);
        due.is("chest(0, -1)", x.chest(0, -1), SIZE);
        due.is("chest(7, 5)", x.chest(7, 5), 15);
        due.is("chest(7, 0)", x.chest(7, 0), FULL);
        due.is("FULL comes ahead of SIZE", x.chest(7, -1), FULL);
        due.is("count(2)", x.count(2), 16);
        due.is("count(7)", x.count(7), 200);
        Player y = new Player();
        due.is("chest(6, 0)", y.chest(6, 0), 0);
        due.is("place(0, 0, -1)", y.place(0, 0, -1), TORN);
        due.is("chest(6, 200)", y.chest(6, 200), 1);
        due.is("place(1, 199, -1)", y.place(1, 199, -1), 1);
    }

    private static void placing() {
        due.part("promise 19");
        Player x = seven();
        for (int kind = 0; kind < 8; kind++) x.chest(kind, 2);
        String[] takes = {"012", "12", "2", "3", "45", "5", "6", "0123456"};
        for (int c = 0; c < 8; c++) {
            for (int i = 0; i < 7; i++) {
                int want = takes[c].indexOf('0' + i) >= 0 ? 1 : STORE;
                due.is("place(" + c + ", 1, " + i + ")", x.place(c, 1, i), want);
            }
            due.is("place nothing", x.place(c, 1, -1), 1);
            due.is("place " + c + " at -1", x.place(c, -1, -1), TORN);
            due.is("place " + c + " at 2", x.place(c, 2, -1), TORN);
            due.is("TORN comes ahead of STORE", x.place(c, MAX, 3), TORN);
        }
        x.place(0, 0, 3);
        due.is("status()", x.status(), 6);
        due.is("place(8, 0, 0)", x.place(8, 0, 0), BAD);
        due.is("place(-1, 0, 0)", x.place(-1, 0, 0), BAD);
        due.is("place(0, 0, 7)", x.place(0, 0, 7), BAD);
        due.is("place(0, 0, -2)", x.place(0, 0, -2), BAD);
        due.is("place(0, 9, 7)", x.place(0, 9, 7), BAD);
    }

    private static void wiring() {
        due.part("promise 20");
        Player x = new Player();
        x.chest(7, 1);
        due.is("wire(-1, 0, 0)", x.wire(-1, 0, 0), BAD);
        due.is("wire(8, 0, 0)", x.wire(8, 0, 0), BAD);
        due.is("wire(0, 1, 0)", x.wire(0, 1, 0), BAD);
        due.is("wire(0, -2, 0)", x.wire(0, -2, 0), BAD);
        due.is("wire(7, 0, MIN)", x.wire(7, 0, MIN), 1);
        due.is("wire(7, 0, MAX)", x.wire(7, 0, MAX), 1);
        due.is("wire(7, -1, -9)", x.wire(7, -1, -9), 1);
        due.part("promise 20: where the WIRE goes");
        x.instrument(0);
        x.place(0, 0, 0);
        x.roll();
        x.strip(0, 0, 0, 1, 1);
        x.punch(0, 0, 0, 255);
        x.wire(0, 0, 0);
        x.wire(1, 0, 1);
        x.wire(2, 0, -1);
        x.wire(3, 0, 0);
        x.wire(3, -1, 0);
        x.play(0);
        x.tick(1);
        int[] sounds = {1, 0, 0, 0, 0, 0, 0, 0};
        for (int t = 0; t < 8; t++) due.is("open(" + t + ")", x.open(t), sounds[t]);
        due.is("count(3)", x.count(3), 4);
        due.is("event(2, 0)", x.event(2, 0), 3);
        due.is("event(2, 2)", x.event(2, 2), 1);
        due.is("event(2, 3)", x.event(2, 3), 2);
        due.is("event(3, 2)", x.event(3, 2), 2);
        due.is("event(3, 3)", x.event(3, 3), 2);
    }

    private static void spoiling() {
        due.part("promise 21");
        Player x = seven();
        due.is("spoil(0, 1000)", x.spoil(0, 1000), 0);
        due.is("spoil(0, 3)", x.spoil(0, 3), 1000);
        due.is("spoil(0, 1001)", x.spoil(0, 1001), BAD);
        due.is("spoil(0, -1)", x.spoil(0, -1), BAD);
        due.is("spoil(7, 1)", x.spoil(7, 1), BAD);
        due.is("spoil(-1, 1)", x.spoil(-1, 1), BAD);
        due.is("spoil(1, 1)", x.spoil(1, 1), 0);
        x.chest(7, 1);
        x.place(0, 0, 0);
        x.wire(0, 0, 0);
        x.roll();
        x.strip(0, 0, 0, 8, 8);
        for (int k = 0; k < 8; k += 2) x.punch(0, 0, k, 1);
        x.play(0);
        x.tick(4);
        due.is("times(0, 0)", x.times(0, 0), 2);
        x.tick(1);
        due.is("the third opening", x.open(0), 0);
        due.is("times(0, 0)", x.times(0, 0), 2);
        x.tick(2);
        due.is("it is to SPOIL no more", x.open(0), 1);
        x.halt();
        due.is("spoil(0, 5)", x.spoil(0, 5), 0);
        x.play(0);
        x.tick(1);
        x.halt();
        due.is("one opening less", x.spoil(0, 0), 4);
    }

    private static void tuning() {
        due.part("promise 22");
        Player x = seven();
        for (int i = 0; i < 7; i++) {
            boolean none = i == 3 || i == 6;
            due.is("tune(" + i + ", 2, 3)", x.tune(i, 2, 3), none ? KIND : 1);
            due.is("tune(" + i + ", 0, 0)", x.tune(i, 0, 0), none ? KIND : 0);
            due.is("tune(" + i + ", 0, 1)", x.tune(i, 0, 1), none ? KIND : 1);
            due.is("tune(" + i + ", 1000, 1000)", x.tune(i, 1000, 1000), none ? KIND : 1);
            due.is("tune(" + i + ", 1, 0)", x.tune(i, 1, 0), BAD);
            due.is("tune(" + i + ", 1001, 1)", x.tune(i, 1001, 1), BAD);
            due.is("tune(" + i + ", 1, 1001)", x.tune(i, 1, 1001), BAD);
            due.is("tune(" + i + ", -1, 1)", x.tune(i, -1, 1), BAD);
            due.is("tune(" + i + ", 1, -1)", x.tune(i, 1, -1), BAD);
        }
        due.is("tune(7, 1, 1)", x.tune(7, 1, 1), BAD);
        due.is("tune(-1, 1, 1)", x.tune(-1, 1, 1), BAD);
        due.is("status()", x.status(), BAD);
        x.tune(0, 0, 0);
        due.is("status() of no number", x.status(), 0);
        due.is("a refused one changes nothing", x.tune(0, 5, 0), BAD);
        due.is("frequency(0)", x.frequency(0), NO_NUMBER);
    }

    private static void bases() {
        due.part("promise 23");
        Player x = seven();
        due.is("base(0)", x.base(0), BAD);
        due.is("base(-1)", x.base(-1), BAD);
        due.is("base(32001)", x.base(32001), BAD);
        frequency(x, 0, 440.0);
        due.is("base(1)", x.base(1), 1);
        frequency(x, 0, 0.0625);
        due.is("base(32000)", x.base(32000), 1);
        frequency(x, 0, 2000.0);
        due.is("base(1003)", x.base(1003), 1);
        frequency(x, 0, 62.6875);
    }

    private static void frequencies() {
        due.part("promise 24");
        Player x = seven();
        double third = 440.0 * (1.0 / 3.0);
        for (int i : new int[] {0, 1, 2, 4, 5}) x.tune(i, 1, 3);
        frequency(x, 0, third);
        frequency(x, 1, third / 2.0);
        frequency(x, 2, 73.25);
        frequency(x, 4, 146.625);
        frequency(x, 5, 146.25);
        due.is("frequency(6)", x.frequency(6), NO_NUMBER);
        due.is("status()", x.status(), 0);
        due.is("frequency(3)", x.frequency(3), 0);
        due.is("status()", x.status(), 5);
        due.is("frequency(7)", x.frequency(7), 0);
        due.is("status()", x.status(), BAD);
        due.is("frequency(-1)", x.frequency(-1), 0);
        int[] traces = {3, 2, 1, 2, 1, 1};
        for (int b = 0; b < 6; b++) due.is("trace(" + (8 + b) + ")", x.trace(8 + b), traces[b]);
        due.part("promise 24: of two as near the even one");
        x.base(17);
        x.tune(4, 1, 1);
        frequency(x, 4, 1.0);
        x.base(19);
        frequency(x, 4, 1.25);
        x.base(21);
        frequency(x, 4, 1.25);
        x.base(1);
        frequency(x, 4, 0.0);
        x.base(3);
        frequency(x, 4, 0.25);
        due.part("promise 24: 0, and no number");
        for (int i : new int[] {0, 1, 2, 4, 5}) x.tune(i, 0, 7);
        double[] zero = {0.0, 0.0, 0.0, 0.0, 0.0, 0.25};
        for (int i : new int[] {0, 1, 2, 4, 5}) frequency(x, i, zero[i]);
        for (int i : new int[] {0, 1, 2, 4, 5}) x.tune(i, 0, 0);
        int before = x.trace(8);
        for (int i : new int[] {0, 1, 2, 4, 5}) due.is("frequency", x.frequency(i), NO_NUMBER);
        due.is("BODIES begin as ever", x.trace(8), before + 3);
        due.part("promise 24: the ends");
        x.base(32000);
        for (int i : new int[] {0, 1, 2, 4, 5}) x.tune(i, 1000, 1);
        double[] most = {2000000.0, 1000000.0, 1000000.0, 0.0, 2000000.0, 2000000.25};
        for (int i : new int[] {0, 1, 2, 4, 5}) frequency(x, i, most[i]);
        x.base(1);
        for (int i : new int[] {0, 1, 2, 4, 5}) x.tune(i, 1, 1000);
        frequency(x, 0, 0.0625 * 0.001);
        frequency(x, 1, 0.0625 * 0.001 / 2.0);
        frequency(x, 2, 0.0);
        x.tune(0, 1, 1);
        for (int v = 1; v <= 16384; v *= 2) {
            x.base(v);
            frequency(x, 0, v / 16.0);
        }
        for (int v = 1; v <= 32000; v += 997) {
            x.base(v);
            x.tune(0, 1 + v % 1000, 1 + v % 777);
            frequency(x, 0, v / 16.0 * ((double) (1 + v % 1000) / (1 + v % 777)));
            x.tune(5, 1 + v % 1000, 1 + v % 777);
            frequency(x, 5, Math.floor(Math.rint(v / 16.0 * ((double) (1 + v % 1000) / (1 + v % 777)) * 8.0) / 8.0) + 0.25);
        }
    }

    private static void couplersFrequency() {
        due.part("promise 24: COUPLERS");
        Player x = seven();
        x.instrument(6);
        x.couple(6, 3);
        due.is("a DRUM has none", x.frequency(6), NO_NUMBER);
        x.tune(0, 0, 0);
        x.couple(6, 0);
        due.is("nor has that", x.frequency(6), NO_NUMBER);
        x.couple(6, 1);
        frequency(x, 6, 220.0);
        x.couple(6, 5);
        frequency(x, 6, 440.25);
        x.couple(6, 4);
        frequency(x, 6, 440.25);
        x.couple(7, 6);
        int before = x.trace(13);
        frequency(x, 7, 440.25);
        due.is("trace(13)", x.trace(13), before + 2);
        x.tune(1, 0, 1);
        x.tune(4, 0, 0);
        x.tune(5, 0, 0);
        frequency(x, 7, 0.0);
        int pipes = x.trace(8);
        x.couple(7, 6);
        frequency(x, 7, 0.0);
        due.is("each MEMBER as often as it is one", x.trace(8), pipes + 4);
    }

    private static void muteAndHigher() {
        due.part("promises 25 and 26");
        Player x = seven();
        int[] mute = {0, 0, 0, KIND, 0, 0, 1};
        for (int i = 0; i < 7; i++) due.is("mute(" + i + ")", x.mute(i), mute[i]);
        due.is("mute(7)", x.mute(7), BAD);
        due.is("mute(-1)", x.mute(-1), BAD);
        due.is("mute does the FREQUENCY's body", x.trace(8), 3);
        x.couple(6, 5);
        due.is("mute(6)", x.mute(6), 0);
        x.tune(5, 0, 0);
        due.is("mute(5)", x.mute(5), 1);
        due.is("mute(6)", x.mute(6), 1);
        due.is("higher(0, 1)", x.higher(0, 1), 1);
        due.is("higher(0, 4)", x.higher(0, 4), 2);
        due.is("higher(1, 0)", x.higher(1, 0), 3);
        due.is("higher(0, 0)", x.higher(0, 0), 2);
        due.is("higher(0, 5)", x.higher(0, 5), 0);
        due.is("higher(5, 0)", x.higher(5, 0), 0);
        due.is("higher(5, 6)", x.higher(5, 6), 0);
        due.is("status()", x.status(), 0);
        int pipes = x.trace(8);
        due.is("higher(0, 3)", x.higher(0, 3), KIND);
        due.is("higher(3, 0)", x.higher(3, 0), KIND);
        due.is("ahead of both", x.trace(8), pipes);
        due.is("higher(0, 7)", x.higher(0, 7), BAD);
        due.is("higher(7, 3)", x.higher(7, 3), BAD);
        due.is("higher(0, 0)", x.higher(0, 0), 2);
        due.is("both are done", x.trace(8), pipes + 2);
        x.tune(0, 0, 1);
        due.is("0 is a number", x.mute(0), 0);
        due.is("higher(0, 1)", x.higher(0, 1), 3);
        due.is("higher(1, 0)", x.higher(1, 0), 1);
        x.tune(1, 0, 1);
        due.is("higher(1, 0)", x.higher(1, 0), 2);
    }

    private static void busy() {
        due.part("promises 16 to 26 while a ROLL is PLAYED");
        Player x = seven();
        x.chest(7, 1);
        x.roll();
        x.play(0);
        due.is("instrument", x.instrument(0), BUSY);
        due.is("instrument(7)", x.instrument(7), BAD);
        due.is("couple", x.couple(6, 0), BUSY);
        due.is("couple(0, 1)", x.couple(0, 1), BUSY);
        due.is("couple(6, 6)", x.couple(6, 6), BAD);
        due.is("chest", x.chest(7, 1), BUSY);
        due.is("chest(7, -1)", x.chest(7, -1), BUSY);
        due.is("chest(8, 1)", x.chest(8, 1), BAD);
        due.is("place", x.place(0, 0, 0), BUSY);
        due.is("place(0, 1, 0)", x.place(0, 1, 0), BUSY);
        due.is("place(1, 0, 0)", x.place(1, 0, 0), BAD);
        due.is("wire", x.wire(0, 0, 0), BUSY);
        due.is("wire(8, 0, 0)", x.wire(8, 0, 0), BAD);
        due.is("spoil", x.spoil(0, 1), BUSY);
        due.is("spoil(0, 1001)", x.spoil(0, 1001), BAD);
        due.is("tune", x.tune(0, 1, 1), BUSY);
        due.is("tune(3, 1, 1)", x.tune(3, 1, 1), BUSY);
        due.is("tune(0, 1, 0)", x.tune(0, 1, 0), BAD);
        due.is("base", x.base(16), BUSY);
        due.is("base(0)", x.base(0), BAD);
        frequency(x, 0, 440.0);
        due.is("mute(0)", x.mute(0), 0);
        due.is("higher(0, 1)", x.higher(0, 1), 1);
        due.is("members(6)", x.members(6), 0);
    }
}
