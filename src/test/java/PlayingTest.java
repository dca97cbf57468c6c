/** Promises 27 to 38, worked out by hand. */
public final class PlayingTest {
    private static final int BAD = -1, BUSY = -3, NONE = -4;
    private static final int MIN = Integer.MIN_VALUE, MAX = Integer.MAX_VALUE;

    private static final Due due = new Due("playing");

    public static void main(String[] args) {
        beginning();
        beginningAnew();
        ticking();
        strips();
        stripsOfNoTicks();
        allTicks();
        halting();
        goingBack();
        whatIsKept();
        opening();
        couplers();
        couplersInCouplers();
        soundingInOrder();
        loudness();
        levels();
        stops();
        tempo();
        beats();
        times();
        eventsAtMost();
        deepestCoupler();
        mostThatSound();
        mostStrips();
        lastInstrument();
        due.end();
    }

    /** INSTRUMENTS 0 .. 6 by their KINDS at PLACES 0 .. 6 of CHEST 0, PLACE 7 is empty; TRACK t goes to PLACE t. */
    private static Player organ() {
        Player x = new Player();
        x.chest(7, 8);
        for (int i = 0; i < 7; i++) {
            x.instrument(i);
            x.place(0, i, i);
        }
        for (int t = 0; t < 8; t++) x.wire(t, 0, t);
        x.roll();
        return x;
    }

    private static int strip(Player x, int kind, int ticks, int... elements) {
        int s = x.strip(0, kind, 0, elements.length, ticks);
        for (int k = 0; k < elements.length; k++) x.punch(0, s, k, elements[k]);
        return s;
    }

    private static void event(Player x, int k, int sort, int gone, int what, int rest) {
        due.is("event(" + k + ", 0)", x.event(k, 0), sort);
        due.is("event(" + k + ", 1)", x.event(k, 1), gone);
        due.is("event(" + k + ", 2)", x.event(k, 2), what);
        due.is("event(" + k + ", 3)", x.event(k, 3), rest);
    }

    /** TEMPO, BEAT, PHASE, TICKS GONE, STRIP, its TICKS, whether it is WHOLE, whether a ROLL is PLAYED. */
    private static void at(Player x, int... want) {
        for (int what = 0; what < want.length; what++) due.is("at(" + what + ")", x.at(what), want[what]);
    }

    private static void beginning() {
        due.part("promise 27");
        Player x = organ();
        due.is("play(-1)", x.play(-1), BAD);
        due.is("play(1)", x.play(1), BAD);
        at(x, 0, 0, 0, 0, NONE, 0, 0, 0, 0);
        due.is("level(0)", x.level(0), 0);
        due.is("stop(0)", x.stop(0), 0);
        due.is("open(0)", x.open(0), NONE);
        strip(x, 0, 1, 1);
        strip(x, 0, 1);
        due.is("play(0)", x.play(0), 2);
        due.is("status()", x.status(), 0);
        at(x, 24, 0, 0, 0, NONE, 0, 0, 1, 0);
        for (int t = 0; t < 8; t++) {
            due.is("level", x.level(t), 1000);
            due.is("open", x.open(t), NONE);
        }
        for (int c = 0; c < 16; c++) due.is("stop", x.stop(c), 1);
        due.is("count(3)", x.count(3), 0);
        due.is("play(0)", x.play(0), BUSY);
        due.is("play(1)", x.play(1), BAD);
        x.halt();
        x.roll();
        due.is("play(1)", x.play(1), 0);
        due.is("tick(3)", x.tick(3), 0);
        due.is("status()", x.status(), 0);
        at(x, 24, 0, 0, 0, NONE, 0, 0, 0, 0);
        due.is("tick(3)", x.tick(3), NONE);
    }

    private static void beginningAnew() {
        due.part("promise 27: all is anew");
        Player x = organ();
        strip(x, 1, 0, 0x9005);
        strip(x, 2, 0, 'a', 'c');
        strip(x, 3, 1, 1 << 18 | 3);
        strip(x, 0, 2, 254, 1);
        x.play(0);
        x.tick(3);
        at(x, 8, 0, 3, 3, 3, 2, 1, 1, 3);
        due.is("level(3)", x.level(3), 5);
        due.is("stop(2)", x.stop(2), 0);
        due.is("open(0)", x.open(0), 0);
        x.halt();
        at(x, 8, 0, 3, 3, 3, 2, 1, 0, 3);
        due.is("level(3)", x.level(3), 5);
        due.is("stop(2)", x.stop(2), 0);
        due.is("open(0)", x.open(0), NONE);
        due.is("count(3) is as it was", x.count(3), 4);
        x.play(0);
        at(x, 24, 0, 0, 0, NONE, 0, 0, 1, 3);
        due.is("level(3)", x.level(3), 1000);
        due.is("stop(2)", x.stop(2), 1);
        due.is("count(3)", x.count(3), 0);
        due.is("event(0, 0)", x.event(0, 0), NONE);
        due.is("back(1)", x.back(1), NONE);
        x.tick(1);
        due.is("24 + floor((-21 * 2 + 4) / 8)", x.at(0), 19);
        x.halt();
        x.roll();
        x.strip(1, 0, 0, 0, 9);
        x.play(1);
        x.tick(1);
        due.is("the TEMPO that went on does no more", x.at(0), 24);
    }

    private static void ticking() {
        due.part("promise 28");
        Player x = organ();
        due.is("tick(1)", x.tick(1), NONE);
        due.is("tick(-1)", x.tick(-1), BAD);
        due.is("tick(501)", x.tick(501), BAD);
        due.is("tick(MIN)", x.tick(MIN), BAD);
        strip(x, 0, 6, 3, 1, 0, 0x82);
        x.play(0);
        due.is("tick(-1)", x.tick(-1), BAD);
        due.is("tick(501)", x.tick(501), BAD);
        due.is("tick(0)", x.tick(0), 0);
        at(x, 24, 0, 0, 0, NONE, 0, 0, 1, 0);
        due.is("count(3)", x.count(3), 0);
        due.is("tick(1)", x.tick(1), 1);
        at(x, 24, 0, 1, 1, 0, 1, 1, 1, 1);
        due.is("count(3)", x.count(3), 3);
        event(x, 0, 0, 0, 0, 0);
        event(x, 1, 1, 0, 0, 0);
        event(x, 2, 1, 0, 1, 1);
        due.is("tick(1)", x.tick(1), 1);
        event(x, 3, 2, 1, 1, 1);
        due.is("tick(1)", x.tick(1), 1);
        event(x, 4, 2, 2, 0, 0);
        due.is("tick(1)", x.tick(1), 1);
        event(x, 5, 1, 3, 1, 1);
        event(x, 6, 3, 3, 7, 1);
        due.is("open(7)", x.open(7), 0);
        due.is("tick(500)", x.tick(500), 2);
        at(x, 24, 0, 6, 6, 0, 6, 1, 0, 6);
        due.is("count(3)", x.count(3), 8);
        event(x, 7, 2, 6, 1, 1);
        due.is("event(8, 0)", x.event(8, 0), NONE);
        due.is("open(1)", x.open(1), NONE);
        due.is("open(7)", x.open(7), NONE);
        due.is("tick(1)", x.tick(1), NONE);
        due.is("status()", x.status(), 0);
        due.is("back(0)", x.back(0), NONE);
        due.is("halt()", x.halt(), NONE);
        x.play(0);
        due.is("just its TICKS", x.tick(6), 6);
        due.is("it is not over yet", x.at(7), 1);
        due.is("one more", x.tick(1), 0);
        due.is("it is over", x.at(7), 0);
    }

    private static void strips() {
        due.part("promise 28: STRIPS that are not WHOLE");
        Player x = organ();
        strip(x, 0, 2, 0x0b);
        strip(x, 0, 3, 0xff, 0xff);
        strip(x, 0, 2, 0x03);
        x.damage(0, 1, 9, 1);
        x.play(0);
        x.tick(2);
        due.is("count(4)", x.count(4), 3);
        due.is("count(3)", x.count(3), 4);
        x.tick(1);
        at(x, 24, 0, 3, 3, 1, 1, 0, 1, 3);
        due.is("count(4)", x.count(4), 0);
        event(x, 4, 0, 2, 1, 9);
        event(x, 5, 2, 2, 3, 3);
        event(x, 6, 2, 2, 1, 1);
        event(x, 7, 2, 2, 0, 0);
        for (int t = 0; t < 8; t++) due.is("open", x.open(t), NONE);
        due.is("tick(2)", x.tick(2), 2);
        at(x, 24, 0, 5, 5, 1, 3, 0, 1, 5);
        due.is("count(3)", x.count(3), 8);
        x.tick(1);
        at(x, 24, 0, 6, 6, 2, 1, 1, 1, 6);
        event(x, 8, 0, 5, 2, 0);
        event(x, 9, 1, 5, 0, 0);
        event(x, 10, 1, 5, 1, 1);
        due.part("promise 28: every FINDING");
        Player y = organ();
        for (int s = 0; s < 8; s++) strip(y, 1, 1, 5, 6);
        y.lose(0, 0);
        y.tear(0, 1, 8);
        y.damage(0, 2, 3, 128);
        y.damage(0, 3, 0, 2);
        y.tear(0, 4, 12);
        y.damage(0, 5, 4, 3);
        y.damage(0, 6, 12, 1);
        y.play(0);
        due.is("tick(500)", y.tick(500), 8);
        int[] found = {1, 2, 3, 5, 7, 8, 9, 0};
        for (int s = 0; s < 8; s++) event(y, s, 0, s, s, found[s]);
        due.is("only the last did something", y.level(0), 5);
        due.is("status()", y.status(), 0);
        due.part("promise 28: HOLES stay open from STRIP to STRIP");
        Player z = organ();
        strip(z, 0, 1, 1);
        strip(z, 1, 1, 0);
        strip(z, 0, 2, 1, 0);
        z.play(0);
        z.tick(3);
        due.is("times(0, 0)", z.times(0, 0), 1);
        due.is("sounding(0, 2)", z.sounding(0, 2), 3);
        z.tick(1);
        due.is("times(0, 1)", z.times(0, 1), 1);
    }

    private static void stripsOfNoTicks() {
        due.part("promise 28: STRIPS of 0 TICKS");
        Player x = organ();
        strip(x, 0, 0, 1, 3, 0, 2);
        strip(x, 1, 0, 0x1007, 0x1008);
        strip(x, 0, 1);
        strip(x, 0, 0, 1);
        x.play(0);
        due.is("tick(1)", x.tick(1), 1);
        at(x, 24, 0, 1, 1, 2, 1, 1, 1, 1);
        due.is("count(3)", x.count(3), 8);
        event(x, 0, 0, 0, 0, 0);
        event(x, 1, 1, 0, 0, 0);
        event(x, 2, 1, 0, 1, 1);
        event(x, 3, 2, 0, 0, 0);
        event(x, 4, 2, 0, 1, 1);
        event(x, 5, 1, 0, 1, 1);
        event(x, 6, 0, 0, 1, 0);
        event(x, 7, 0, 0, 2, 0);
        due.is("level(1)", x.level(1), 8);
        due.is("the last one, and over", x.tick(1), 0);
        event(x, 8, 0, 1, 3, 0);
        event(x, 9, 1, 1, 0, 0);
        event(x, 10, 2, 1, 1, 1);
        event(x, 11, 2, 1, 0, 0);
        due.is("count(3)", x.count(3), 12);
        at(x, 24, 0, 1, 1, 3, 0, 1, 0, 1);
        due.part("promise 28: one of 0 TICKS that is not WHOLE");
        Player y = organ();
        strip(y, 0, 1, 1);
        strip(y, 0, 0, 255);
        strip(y, 1, 1, 9);
        y.damage(0, 1, 5, 1);
        y.play(0);
        y.tick(2);
        event(y, 2, 0, 1, 1, 9);
        event(y, 3, 2, 1, 0, 0);
        event(y, 4, 0, 1, 2, 0);
        due.is("open(0)", y.open(0), NONE);
        due.is("count(3)", y.count(3), 5);
        at(y, 24, 0, 2, 2, 2, 1, 1, 1, 2);
        due.part("promise 28: nothing but STRIPS of 0 TICKS");
        Player z = organ();
        for (int s = 0; s < 50; s++) strip(z, 0, 0, 1);
        z.repeat(0, 0, 8);
        z.play(0);
        due.is("tick(500)", z.tick(500), 0);
        due.is("count(3)", z.count(3), 60);
        at(z, 24, 0, 0, 0, 57, 0, 1, 0, 0);
    }

    private static void allTicks() {
        due.part("promise 28: 20000 TICKS");
        Player x = organ();
        for (int s = 0; s < 80; s++) x.strip(0, 0, 0, 0, 256);
        x.punch(0, x.strip(0, 0, 0, 0, 256), 0, 1);
        x.play(0);
        for (int i = 0; i < 39; i++) due.is("tick(500)", x.tick(500), 500);
        due.is("tick(499)", x.tick(499), 499);
        due.is("tick(500)", x.tick(500), 1);
        due.is("tick(500)", x.tick(500), 0);
        due.is("status()", x.status(), 0);
        at(x, 24, 833, 8, 20000, 78, 32, 1, 1, 20000);
        due.is("back(10)", x.back(10), 19990);
        due.is("they are not there again", x.tick(1), 0);
        due.is("at(8)", x.at(8), 20000);
        due.is("halt()", x.halt(), 0);
        due.is("play(0)", x.play(0), 81);
        due.is("tick(1)", x.tick(1), 0);
        at(x, 24, 0, 0, 0, NONE, 0, 0, 1, 20000);
        due.is("nothing is done", x.count(3), 0);
        x.halt();
        x.roll();
        x.play(1);
        due.is("tick(1)", x.tick(1), 0);
        due.is("an empty ROLL is not over either", x.at(7), 1);
    }

    private static void halting() {
        due.part("promise 29");
        Player x = organ();
        due.is("halt()", x.halt(), NONE);
        strip(x, 0, 3, 0x8f);
        x.couple(6, 0);
        x.play(0);
        due.is("halt() at once", x.halt(), 0);
        x.play(0);
        x.tick(2);
        int events = x.count(3);
        due.is("halt()", x.halt(), 4);
        due.is("status()", x.status(), 0);
        for (int k = 0; k < 4; k++) event(x, events + k, 2, 2, 3 - k, 3 - k);
        due.is("count(3)", x.count(3), events + 4);
        due.is("count(4)", x.count(4), 0);
        for (int t = 0; t < 8; t++) due.is("open", x.open(t), NONE);
        at(x, 24, 0, 2, 2, 0, 2, 1, 0, 2);
        due.is("trace(16)", x.trace(16), 4);
        due.is("halt()", x.halt(), NONE);
        due.is("tick(1)", x.tick(1), NONE);
        due.is("back(0)", x.back(0), NONE);
        due.is("seal(0, 0)", x.seal(0, 0), 1);
    }

    private static void goingBack() {
        due.part("promise 30");
        Player x = organ();
        due.is("back(0)", x.back(0), NONE);
        due.is("back(-1)", x.back(-1), BAD);
        due.is("back(501)", x.back(501), BAD);
        x.spoil(0, 3);
        strip(x, 0, 2, 3, 0x12);
        strip(x, 1, 1, 0x8005);
        strip(x, 2, 1, 'd');
        strip(x, 3, 3, 4 << 16 | 4);
        strip(x, 0, 2, 1, 0);
        x.play(0);
        due.is("back(0)", x.back(0), 0);
        due.is("back(1)", x.back(1), NONE);
        due.is("back(-1)", x.back(-1), BAD);
        due.is("back(501)", x.back(501), BAD);
        x.tick(1);
        due.is("count(3)", x.count(3), 3);
        x.tick(8);
        int traced = x.trace(14);
        due.is("tick 9 ends it", x.count(4), 0);
        due.is("times(0, 0)", x.times(0, 0), 2);
        due.is("back(8)", x.back(8), 1);
        due.is("status()", x.status(), 0);
        at(x, 24, 0, 1, 1, 0, 1, 1, 1, 9);
        due.is("count(3)", x.count(3), 3);
        due.is("event(3, 0)", x.event(3, 0), NONE);
        due.is("times(0, 0)", x.times(0, 0), 1);
        due.is("times(4, 0)", x.times(4, 0), 0);
        due.is("times(4, 1)", x.times(4, 1), 0);
        due.is("trace(14) stays", x.trace(14), traced);
        due.is("count(4)", x.count(4), 2);
        due.is("sounding(1, 0)", x.sounding(1, 0), 1);
        due.is("sounding(1, 2)", x.sounding(1, 2), 1);
        due.is("open(0)", x.open(0), 1);
        due.is("open(4)", x.open(4), NONE);
        due.is("level(2)", x.level(2), 1000);
        due.is("stop(3)", x.stop(3), 1);
        due.is("back(2)", x.back(2), NONE);
        due.is("back(1)", x.back(1), 0);
        at(x, 24, 0, 0, 0, NONE, 0, 0, 1, 9);
        due.is("count(3)", x.count(3), 0);
        due.is("tick(7), the same again", x.tick(7), 7);
        at(x, 9, 0, 7, 7, 3, 3, 1, 1, 16);
        due.is("level(2)", x.level(2), 5);
        due.is("stop(3)", x.stop(3), 0);
        due.is("count(4)", x.count(4), 2);
        due.is("what goes on goes on behind it", x.back(2), 5);
        due.is("at(0)", x.at(0), 19);
        x.tick(3);
        due.is("at(0)", x.at(0), 4);
        due.is("at(1)", x.at(1), 1);
        due.is("at(2)", x.at(2), 0);
        x.back(8);
        x.halt();
        due.is("SPOILING is as it was", x.spoil(0, 0), 3);
    }

    private static void whatIsKept() {
        due.part("promise 30: what is kept");
        Player x = organ();
        for (int s = 0; s < 9; s++) x.strip(0, 0, 0, 0, 256);
        x.play(0);
        x.tick(500);
        due.is("back(500)", x.back(500), 0);
        x.tick(500);
        x.tick(1);
        due.is("back(500)", x.back(500), 1);
        due.is("back(1)", x.back(1), NONE);
        due.is("back(0)", x.back(0), 1);
        x.tick(10);
        due.is("back(11)", x.back(11), NONE);
        due.is("status()", x.status(), 0);
        due.is("at(3)", x.at(3), 11);
        due.is("back(10)", x.back(10), 1);
        x.tick(500);
        x.tick(200);
        due.is("back(300)", x.back(300), 401);
        due.is("back(201)", x.back(201), NONE);
        due.is("back(200)", x.back(200), 201);
        due.is("at(4)", x.at(4), 0);
        due.is("at(5)", x.at(5), 201);
        x.tick(500);
        due.is("back(500)", x.back(500), 201);
        x.halt();
        x.play(0);
        x.tick(3);
        due.is("of another ROLL nothing", x.back(4), NONE);
        due.is("back(3)", x.back(3), 0);
    }

    private static void opening() {
        due.part("promise 31");
        Player x = organ();
        due.is("open(-1)", x.open(-1), BAD);
        due.is("open(8)", x.open(8), BAD);
        x.wire(5, -1, 0);
        x.wire(4, 0, 8);
        x.couple(6, 3);
        x.couple(6, 3);
        strip(x, 0, 2, 0xff, 0x41);
        x.play(0);
        due.is("open(0)", x.open(0), NONE);
        due.is("status()", x.status(), 0);
        x.tick(1);
        int[] sounds = {1, 1, 1, 1, 0, 0, 3, 0};
        for (int t = 0; t < 8; t++) due.is("open(" + t + ")", x.open(t), sounds[t]);
        due.is("count(3)", x.count(3), 10);
        event(x, 5, 3, 0, 4, 2);
        event(x, 6, 1, 0, 6, 6);
        event(x, 7, 1, 0, 3, 6);
        event(x, 8, 1, 0, 3, 6);
        event(x, 9, 3, 0, 7, 1);
        x.tick(1);
        int[] then = {1, NONE, NONE, NONE, NONE, NONE, 3, NONE};
        for (int t = 0; t < 8; t++) due.is("open(" + t + ")", x.open(t), then[t]);
    }

    private static void couplers() {
        due.part("section 3, TO OPEN");
        Player x = organ();
        for (int m : new int[] {0, 1, 3}) x.couple(6, m);
        x.spoil(3, 1);
        strip(x, 0, 4, 0x40, 0, 0x40, 0);
        x.play(0);
        x.tick(1);
        due.is("open(6)", x.open(6), 0);
        due.is("count(3)", x.count(3), 8);
        int[] order = {6, 0, 1};
        for (int k = 0; k < 3; k++) {
            event(x, 1 + k, 1, 0, order[k], 6);
            event(x, 4 + k, 2, 0, order[2 - k], 6);
        }
        event(x, 7, 3, 0, 6, 10);
        due.is("trace(14)", x.trace(14), 4);
        due.is("trace(15)", x.trace(15), 1);
        due.is("trace(16)", x.trace(16), 3);
        due.is("times(3, 0)", x.times(3, 0), 0);
        due.is("times(6, 0)", x.times(6, 0), 1);
        due.is("times(6, 1)", x.times(6, 1), 1);
        x.tick(1);
        due.is("nothing was left to be ENDED", x.count(3), 8);
        due.is("open(6)", x.open(6), NONE);
        x.tick(1);
        due.is("now it is not SPOILT", x.open(6), 4);
        x.tick(1);
        int[] last = {3, 1, 0, 6};
        for (int k = 0; k < 4; k++) event(x, 12 + k, 2, 3, last[k], 6);
        x.halt();
        due.part("section 3, a COUPLER that is SPOILT");
        x.spoil(6, 2);
        x.play(0);
        x.tick(3);
        due.is("trace(15)", x.trace(15), 4);
        due.is("trace(14)", x.trace(14), 4 + 4 + 4 + 1);
        due.is("open(6)", x.open(6), 0);
        due.is("times(6, 0)", x.times(6, 0), 1);
        x.halt();
        due.is("spoil(6, 0)", x.spoil(6, 0), 0);
    }

    private static void couplersInCouplers() {
        due.part("section 3, COUPLERS of COUPLERS");
        Player x = organ();
        x.instrument(6);
        x.instrument(6);
        x.couple(6, 0);
        x.couple(6, 7);
        x.couple(7, 1);
        x.couple(7, 8);
        x.couple(8, 2);
        x.couple(8, 3);
        x.couple(6, 4);
        x.spoil(3, 2);
        x.spoil(2, 9);
        strip(x, 0, 3, 0x41, 0x01, 0x41);
        x.play(0);
        x.tick(1);
        int[] order = {6, 0, 7, 1, 8, 2, 3, 4};
        due.is("count(4)", x.count(4), 9);
        for (int k = 0; k < 8; k++) due.is("sounding", x.sounding(1 + k, 0), order[k]);
        x.tick(2);
        due.is("count(4)", x.count(4), 1);
        due.is("sounding(0, 0)", x.sounding(0, 0), 0);
        int first = 2 + 8 + 8;
        int[] opened = {6, 0, 7, 1, 8, 2};
        for (int k = 0; k < 6; k++) {
            event(x, first + k, 1, 2, opened[k], 6);
            event(x, first + 6 + k, 2, 2, opened[5 - k], 6);
        }
        event(x, first + 12, 3, 2, 6, 10);
        due.is("count(3)", x.count(3), first + 13);
        x.halt();
        due.is("openings that came to nothing count, too", x.spoil(2, 0), 7);
        due.is("times(0, 0)", x.times(0, 0), 3);
        due.is("times(0, 1)", x.times(0, 1), 3);
    }

    private static void soundingInOrder() {
        due.part("promise 32");
        Player x = organ();
        strip(x, 0, 5, 0x0a, 0x0f, 0x0d, 0x0f);
        x.play(0);
        x.tick(4);
        int[][] want = {{3, 3, 4}, {0, 0, 3}, {2, 2, 3}, {1, 1, 1}};
        for (int k = 0; k < 4; k++) {
            for (int what = 0; what < 3; what++) due.is("sounding(" + k + ", " + what + ")", x.sounding(k, what), want[k][what]);
        }
        due.is("sounding(4, 0)", x.sounding(4, 0), NONE);
        due.is("sounding(MAX, 0)", x.sounding(MAX, 0), NONE);
        due.is("status()", x.status(), 0);
        due.is("sounding(-1, 0)", x.sounding(-1, 0), BAD);
        due.is("sounding(0, -1)", x.sounding(0, -1), BAD);
        due.is("sounding(0, 3)", x.sounding(0, 3), BAD);
        due.is("sounding(9, 3)", x.sounding(9, 3), BAD);
    }

    private static void loudness() {
        due.part("promise 33");
        Player x = organ();
        x.couple(6, 5);
        strip(x, 0, 4, 0x7f, 0x7f, 0x7f, 0x7f);
        strip(x, 1, 1, 0x8003);
        strip(x, 2, 1, 'p');
        x.play(0);
        due.is("loud(0)", x.loud(0), NONE);
        x.tick(1);
        int[] want = {1019, 1026, 1045, 0, 995, 1001, 0};
        for (int k = 0; k < 7; k++) due.is("loud(" + k + ")", x.loud(k), want[k]);
        int[] traces = {3, 2, 1, 2, 1, 1, 3, 1, 3, 2, 1, 3, 2, 1};
        for (int b = 0; b < 14; b++) due.is("trace(" + b + ")", x.trace(b), traces[b]);
        due.is("loud(8)", x.loud(8), NONE);
        due.is("loud(-1)", x.loud(-1), BAD);
        due.is("loud(MIN)", x.loud(MIN), BAD);
        x.tick(3);
        due.is("PLUCKED at 4", x.loud(4), 980);
        due.is("BELL at 4", x.loud(5), 996);
        x.tick(2);
        int[] then = {3 + 3 + 15, 3 + 3 + 15 + 7, 3 + 2 * 18 + 7, 0, 0, 1, 0};
        for (int k = 0; k < 7; k++) due.is("loud(" + k + ")", x.loud(k), then[k]);
        x.back(6);
        x.halt();
        due.part("promise 33: MUTE ones");
        for (int i : new int[] {0, 1, 2, 4, 5}) x.tune(i, 0, 0);
        x.play(0);
        x.tick(1);
        int[] before = new int[17];
        for (int b = 0; b < 17; b++) before[b] = x.trace(b);
        for (int k = 0; k < 7; k++) due.is("loud(" + k + ")", x.loud(k), 0);
        int[] more = {0, 0, 1, 0, 0, 0, 0, 0, 3, 2, 1, 3, 2, 1};
        for (int b = 0; b < 14; b++) due.is("trace(" + b + ")", x.trace(b), before[b] + more[b]);
    }

    private static void levels() {
        due.part("promise 34");
        Player x = organ();
        due.is("level(-1)", x.level(-1), BAD);
        due.is("level(8)", x.level(8), BAD);
        due.is("level(7)", x.level(7), 0);
        strip(x, 1, 5, 0x1005, 0x7fff, 0x0000, 0x8007, 0xffff);
        x.play(0);
        x.tick(1);
        int[] one = {1000, 5, 1000, 1000, 1000, 1000, 1000, 1000};
        for (int t = 0; t < 8; t++) due.is("level(" + t + ")", x.level(t), one[t]);
        x.tick(2);
        int[] three = {0, 5, 1000, 1000, 1000, 1000, 1000, 4095};
        for (int t = 0; t < 8; t++) due.is("level(" + t + ")", x.level(t), three[t]);
        x.tick(1);
        for (int t = 0; t < 8; t++) due.is("level(" + t + ")", x.level(t), 7);
        x.tick(1);
        for (int t = 0; t < 8; t++) due.is("level(" + t + ")", x.level(t), 4095);
        x.tick(1);
        for (int t = 0; t < 8; t++) due.is("over, level(" + t + ")", x.level(t), 4095);
    }

    private static void stops() {
        due.part("promise 35");
        Player x = organ();
        due.is("stop(-1)", x.stop(-1), BAD);
        due.is("stop(16)", x.stop(16), BAD);
        due.is("stop(15)", x.stop(15), 0);
        strip(x, 2, 0, 'a', 'p', 'q', 'Q', '@', '`', 0x0162, 'B');
        strip(x, 0, 1, 1);
        strip(x, 2, 0, 'A');
        strip(x, 0, 1, 3);
        strip(x, 2, 0, 'a', 'P');
        strip(x, 0, 2, 3, 0);
        x.play(0);
        x.tick(1);
        for (int c = 0; c < 16; c++) due.is("stop(" + c + ")", x.stop(c), c == 0 || c == 15 ? 0 : 1);
        due.is("the HOLE is open", x.open(0), 0);
        due.is("without an EVENT", x.count(3), 2);
        x.tick(1);
        due.is("stop(0)", x.stop(0), 1);
        due.is("a HOLE that is open opens no more", x.open(0), 0);
        due.is("open(1)", x.open(1), 1);
        x.tick(1);
        due.is("stop(0)", x.stop(0), 0);
        due.is("stop(15)", x.stop(15), 1);
        due.is("what sounds does so", x.open(1), 1);
        x.tick(1);
        due.is("count(4)", x.count(4), 0);
        due.is("halt()", x.halt(), 0);
        due.is("stop(0)", x.stop(0), 0);
    }

    private static void tempo() {
        due.part("promise 36: TEMPO");
        Player x = organ();
        strip(x, 3, 4, 3 << 16 | 4);
        strip(x, 3, 3, 2 << 16 | 9);
        strip(x, 3, 2, 7 << 16, 30);
        strip(x, 3, 4, 4 << 16 | 10, 1 << 16, 20);
        x.play(0);
        int[] want = {17, 11, 4, 4, 7, 9, 9, 9, 30, 25, 20, 20, 20};
        for (int k = 0; k < want.length; k++) {
            x.tick(1);
            due.is("TEMPO behind tick " + (k + 1), x.at(0), want[k]);
        }
        due.part("promise 36: TEMPO exactly");
        Player y = organ();
        strip(y, 3, 0, 1);
        strip(y, 3, 256, 0xffffffff);
        strip(y, 3, 256);
        y.play(0);
        y.tick(500);
        due.is("1 + floor((65534 * 500 * 2 + 65535) / 131070)", y.at(0), 501);
        y.halt();
        Player z = organ();
        strip(z, 3, 0, 65535);
        strip(z, 3, 256, 60000 << 16 | 1);
        strip(z, 3, 256);
        z.play(0);
        z.tick(500);
        due.is("65535 + floor((-65534 * 500 * 2 + 60000) / 120000)", z.at(0), 65535 - 546);
        due.part("promise 36: of two TEMPI the later, from what it is");
        Player w = organ();
        strip(w, 3, 3, 10 << 16 | 34, 2 << 16 | 5);
        w.play(0);
        w.tick(1);
        due.is("24 + floor((10 * 2 + 10) / 20)", w.at(0), 25);
        w.tick(1);
        due.is("25 + floor((-20 * 2 + 2) / 4)", w.at(0), 15);
        w.tick(1);
        due.is("its end", w.at(0), 5);
    }

    private static void beats() {
        due.part("promise 36");
        Player x = organ();
        due.is("at(-1)", x.at(-1), BAD);
        due.is("at(9)", x.at(9), BAD);
        due.is("at(4)", x.at(4), NONE);
        due.is("status()", x.status(), 0);
        x.strip(0, 0, 0, 0, 100);
        strip(x, 3, 5, 1, 1, 3);
        x.play(0);
        x.tick(23);
        at(x, 24, 0, 23, 23, 0, 23, 1, 1, 23);
        x.tick(1);
        at(x, 24, 1, 0, 24, 0, 24, 1, 1, 24);
        x.tick(76);
        at(x, 24, 4, 4, 100, 0, 100, 1, 1, 100);
        x.tick(1);
        at(x, 1, 5, 0, 101, 1, 1, 1, 1, 101);
        x.tick(1);
        at(x, 1, 6, 0, 102, 1, 2, 1, 1, 102);
        x.tick(1);
        at(x, 3, 6, 1, 103, 1, 3, 1, 1, 103);
        x.tick(500);
        at(x, 3, 7, 0, 105, 1, 5, 1, 0, 105);
    }

    private static void times() {
        due.part("promise 37");
        Player x = organ();
        due.is("times(0, 0)", x.times(0, 0), 0);
        due.is("times(7, 0)", x.times(7, 0), BAD);
        due.is("times(-1, 0)", x.times(-1, 0), BAD);
        due.is("times(0, -1)", x.times(0, -1), BAD);
        due.is("times(0, 2)", x.times(0, 2), BAD);
        x.couple(6, 0);
        x.couple(6, 0);
        strip(x, 0, 4, 0x41, 0x40, 0x01, 0x41);
        x.play(0);
        x.tick(4);
        due.is("times(0, 0)", x.times(0, 0), 6);
        due.is("times(0, 1)", x.times(0, 1), 3);
        due.is("times(6, 0)", x.times(6, 0), 2);
        due.is("times(6, 1)", x.times(6, 1), 1);
        x.tick(1);
        due.is("over", x.at(7), 0);
        due.is("times(0, 1)", x.times(0, 1), 6);
        due.is("times(6, 1)", x.times(6, 1), 2);
        x.play(0);
        due.is("times(0, 0)", x.times(0, 0), 0);
        due.is("times(0, 1)", x.times(0, 1), 0);
    }

    private static void eventsAtMost() {
        due.part("promise 38");
        Player x = organ();
        for (int i = 0; i < 8; i++) x.wire(i, 0, 0);
        int s = x.strip(0, 0, 0, 256, 0);
        for (int k = 0; k < 256; k += 2) x.punch(0, s, k, 255);
        x.strip(0, 0, 0, 0, 3);
        x.play(0);
        x.tick(1);
        due.is("count(3)", x.count(3), 1 + 256 * 8 + 1);
        event(x, 1, 1, 0, 0, 0);
        event(x, 9, 2, 0, 0, 0);
        event(x, 1499, 2, 0, 0, 2);
        due.is("event(1500, 0)", x.event(1500, 0), NONE);
        due.is("event(2048, 0)", x.event(2048, 0), NONE);
        due.is("event(MAX, 0)", x.event(MAX, 0), NONE);
        due.is("status()", x.status(), 0);
        due.is("event(-1, 0)", x.event(-1, 0), BAD);
        due.is("event(0, -1)", x.event(0, -1), BAD);
        due.is("event(0, 4)", x.event(0, 4), BAD);
        due.is("event(9999, 4)", x.event(9999, 4), BAD);
        due.is("back(1)", x.back(1), 0);
        due.is("count(3)", x.count(3), 0);
        due.is("event(0, 0)", x.event(0, 0), NONE);
    }

    /** 39 COUPLERS, each the MEMBER of the one ahead of it, and a PIPE: INSTRUMENTS 0 .. 38 and 39. */
    private static Player chain() {
        Player x = new Player();
        for (int i = 0; i < 39; i++) x.instrument(6);
        x.instrument(0);
        for (int i = 0; i < 39; i++) due.is("couple", x.couple(i, i + 1), 1);
        x.chest(6, 1);
        x.place(0, 0, 0);
        for (int t = 0; t < 8; t++) x.wire(t, 0, 0);
        x.roll();
        return x;
    }

    private static void deepestCoupler() {
        due.part("section 3: 40 levels");
        Player x = chain();
        due.is("the last has the first", x.couple(39, 0), BAD);
        due.is("frequency(0)", x.frequency(0), Double.doubleToLongBits(440.0));
        due.is("trace(13)", x.trace(13), 39);
        due.is("trace(8)", x.trace(8), 1);
        x.spoil(39, 2);
        strip(x, 0, 3, 1, 0, 1);
        x.play(0);
        x.tick(1);
        due.is("open(0)", x.open(0), 40);
        for (int k = 0; k < 40; k++) due.is("sounding", x.sounding(k, 0), k);
        due.is("loud(39)", x.loud(39), 1019);
        x.tick(2);
        due.is("open(0)", x.open(0), 0);
        due.is("count(3)", x.count(3), 1 + 40 + 40 + 39 + 39 + 1);
        due.is("trace(15)", x.trace(15), 78);
        due.is("trace(14)", x.trace(14), 80);
        due.is("trace(16)", x.trace(16), 79);
        event(x, 159, 3, 2, 0, 10);
        event(x, 158, 2, 2, 0, 0);
        event(x, 120, 2, 2, 38, 0);
    }

    private static void mostThatSound() {
        due.part("section 4: 320 sound");
        Player x = chain();
        strip(x, 0, 4, 255, 255, 254, 255);
        x.play(0);
        x.tick(1);
        due.is("count(4)", x.count(4), 320);
        for (int t = 0; t < 8; t++) due.is("open", x.open(t), 40);
        due.is("sounding(319, 0)", x.sounding(319, 0), 39);
        due.is("sounding(319, 1)", x.sounding(319, 1), 7);
        due.is("sounding(320, 1)", x.sounding(320, 1), NONE);
        x.tick(2);
        due.is("count(4)", x.count(4), 280);
        due.is("sounding(0, 1)", x.sounding(0, 1), 1);
        x.tick(1);
        due.is("sounding(319, 1)", x.sounding(319, 1), 0);
        due.is("sounding(319, 2)", x.sounding(319, 2), 1);
        due.is("back(2)", x.back(2), 2);
        due.is("sounding(319, 1)", x.sounding(319, 1), 7);
        due.is("sounding(319, 2)", x.sounding(319, 2), 2);
        due.is("halt()", x.halt(), 320);
    }

    private static void mostStrips() {
        due.part("promise 28: 400 STRIPS");
        Player x = new Player();
        x.roll();
        for (int s = 0; s < 399; s++) x.strip(0, 0, 0, 0, 0);
        x.strip(0, 0, 0, 0, 1);
        due.is("play(0)", x.play(0), 400);
        due.is("tick(2)", x.tick(2), 1);
        due.is("count(3)", x.count(3), 400);
        at(x, 24, 0, 1, 1, 399, 1, 1, 0, 1);
    }

    private static void lastInstrument() {
        due.part("promise 37: INSTRUMENT 59");
        Player x = new Player();
        for (int i = 0; i < 60; i++) x.instrument(4);
        x.chest(4, 1);
        x.place(0, 0, 59);
        x.wire(7, 0, 0);
        x.roll();
        strip(x, 0, 2, 128, 0);
        x.play(0);
        x.tick(2);
        due.is("times(59, 0)", x.times(59, 0), 1);
        due.is("times(59, 1)", x.times(59, 1), 1);
        due.is("times(58, 1)", x.times(58, 1), 0);
        due.is("times(60, 1)", x.times(60, 1), BAD);
        event(x, 1, 1, 0, 59, 7);
        event(x, 2, 2, 1, 59, 7);
    }
}
