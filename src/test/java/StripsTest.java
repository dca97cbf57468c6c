/** Promises 1 to 15, worked out by hand. 31 to the fifth is 28629151: the sum of five bytes of 0. */
public final class StripsTest {
    private static final int BAD = -1, FULL = -2, BUSY = -3, NONE = -4;
    private static final int LOST = -11, TORN = -12, SIZE = -13, KIND = -15, LONG = -17, SHORT = -18, SUM = -19;
    private static final int MIN = Integer.MIN_VALUE, MAX = Integer.MAX_VALUE;

    private static final Due due = new Due("strips");

    public static void main(String[] args) {
        newObject();
        rolls();
        strips();
        stripsAtMost();
        punching();
        sealing();
        losing();
        tearing();
        damaging();
        bytesAndHeads();
        sums();
        reading();
        wholeAndFinding();
        told();
        busy();
        due.end();
    }

    private static Player playing() {
        Player x = new Player();
        x.roll();
        x.strip(0, 0, 1, 2, 2);
        x.play(0);
        return x;
    }

    private static void newObject() {
        due.part("promise 1");
        Player x = new Player();
        due.is("status()", x.status(), 0);
        for (int what = 0; what < 8; what++) due.is("count(" + what + ")", x.count(what), 0);
        for (int b = 0; b < 17; b++) due.is("trace(" + b + ")", x.trace(b), 0);
        for (int what = 0; what < 9; what++) due.is("at(" + what + ")", x.at(what), what == 4 ? NONE : 0);
        due.is("strips(0)", x.strips(0), BAD);
        due.is("members(0)", x.members(0), BAD);
        due.is("place(0, 0, -1)", x.place(0, 0, -1), BAD);
        due.is("instrument(0)", x.instrument(0), 0);
        due.is("frequency(0)", x.frequency(0), Double.doubleToLongBits(440.0));
        due.is("fallen(0, 0)", x.fallen(0, 0), NONE);
        due.is("event(0, 0)", x.event(0, 0), NONE);
    }

    private static void rolls() {
        due.part("promise 2");
        Player x = new Player();
        for (int i = 0; i < 20; i++) due.is("roll()", x.roll(), i);
        due.is("strips(19)", x.strips(19), 0);
        due.is("roll()", x.roll(), FULL);
        due.is("status()", x.status(), FULL);
        due.is("count(0)", x.count(0), 20);
        x.play(0);
        due.is("roll()", x.roll(), BUSY);
        due.is("status()", x.status(), BUSY);
    }

    private static void strips() {
        due.part("promise 3");
        Player x = new Player();
        due.is("strip(0, 0, 0, 0, 0)", x.strip(0, 0, 0, 0, 0), BAD);
        x.roll();
        x.roll();
        due.is("strip(0, 0, 0, 0, 0)", x.strip(0, 0, 0, 0, 0), 0);
        due.is("strip(0, 3, 30000, 256, 256)", x.strip(0, 3, 30000, 256, 256), 1);
        due.is("strip(1, 2, 7, 1, 1)", x.strip(1, 2, 7, 1, 1), 0);
        int[][] bad = {{-1, 0, 0, 0, 0}, {2, 0, 0, 0, 0}, {0, -1, 0, 0, 0}, {0, 4, 0, 0, 0}, {0, 0, -1, 0, 0},
            {0, 0, 30001, 0, 0}, {0, 0, 0, 257, 0}, {0, 0, 0, MAX, 0}, {0, 0, 0, 0, -1}, {0, 0, 0, 0, 257},
            {0, 4, 0, -1, 0}, {MIN, 0, 0, -1, 0}};
        for (int[] b : bad) due.is("a bad strip", x.strip(b[0], b[1], b[2], b[3], b[4]), BAD);
        due.is("status()", x.status(), BAD);
        due.is("strip(0, 0, 0, -1, 0)", x.strip(0, 0, 0, -1, 0), SIZE);
        due.is("strip(0, 0, 0, MIN, 0)", x.strip(0, 0, 0, MIN, 0), SIZE);
        due.is("status()", x.status(), 3);
        due.is("strips(0)", x.strips(0), 2);
        due.is("read(0, 1)", x.read(0, 1), 256);
        due.is("head(0, 1, 0)", x.head(0, 1, 0), 3);
        due.is("head(0, 1, 1)", x.head(0, 1, 1), 30000);
        due.is("head(0, 1, 2)", x.head(0, 1, 2), 256);
        due.is("byteOf(0, 1, 1032)", x.byteOf(0, 1, 1032), 0);
        due.is("byteOf(0, 1, 1033)", x.byteOf(0, 1, 1033), TORN);
        due.is("byteOf(1, 0, 10)", x.byteOf(1, 0, 10), 0);
        due.is("byteOf(1, 0, 11)", x.byteOf(1, 0, 11), TORN);
        due.is("head(0, 0, 3)", x.head(0, 0, 3), 28629151);
    }

    private static void stripsAtMost() {
        due.part("promise 3, at most");
        Player x = new Player();
        x.roll();
        x.roll();
        for (int i = 0; i < 399; i++) due.is("strip", x.strip(0, 0, 0, 0, 0), i);
        due.is("strip", x.strip(1, 0, 0, 0, 0), 0);
        due.is("strip", x.strip(1, 0, 0, 0, 0), FULL);
        due.is("FULL comes ahead of SIZE", x.strip(1, 0, 0, -1, 0), FULL);
        due.is("BAD comes ahead of FULL", x.strip(1, 0, 0, 257, 0), BAD);

        Player y = new Player();
        y.roll();
        for (int i = 0; i < 31; i++) due.is("strip", y.strip(0, i % 4, 0, 256, 0), i);
        due.is("strip of 65", y.strip(0, 0, 0, 65, 0), FULL);
        due.is("status()", y.status(), FULL);
        due.is("strip of -1", y.strip(0, 0, 0, -1, 0), SIZE);
        due.is("strip of 64", y.strip(0, 0, 0, 64, 0), 31);
        due.is("count(6)", y.count(6), 8000);
        due.is("strip of 1", y.strip(0, 0, 0, 1, 0), FULL);
        due.is("strip of 0", y.strip(0, 0, 0, 0, 0), 32);
        due.is("strip of -1", y.strip(0, 0, 0, -1, 0), SIZE);
        due.is("tear(0, 3, 12)", y.tear(0, 3, 12), 0);
        due.is("strip of 256", y.strip(0, 0, 0, 256, 0), 33);
        due.is("strip of 1", y.strip(0, 0, 0, 1, 0), FULL);
        due.is("lose(0, 31)", y.lose(0, 31), 1);
        due.is("strip of 64", y.strip(0, 0, 0, 64, 0), 34);
    }

    private static void punching() {
        due.part("promise 4");
        Player x = new Player();
        x.roll();
        for (int kind = 0; kind < 4; kind++) x.strip(0, kind, 0, 2, 0);
        int v = 0x12345678;
        for (int kind = 0; kind < 4; kind++) due.is("punch", x.punch(0, kind, 1, v), 1);
        due.is("byteOf(0, 0, 9)", x.byteOf(0, 0, 9), 0);
        due.is("byteOf(0, 0, 10)", x.byteOf(0, 0, 10), 0x78);
        due.is("byteOf(0, 1, 10)", x.byteOf(0, 1, 10), 0);
        due.is("byteOf(0, 1, 11)", x.byteOf(0, 1, 11), 0x56);
        due.is("byteOf(0, 1, 12)", x.byteOf(0, 1, 12), 0x78);
        due.is("byteOf(0, 2, 11)", x.byteOf(0, 2, 11), 0x56);
        due.is("byteOf(0, 2, 12)", x.byteOf(0, 2, 12), 0x78);
        int[] four = {0, 0x12, 0x34, 0x56, 0x78};
        for (int i = 0; i < 5; i++) due.is("byteOf(0, 3, ..)", x.byteOf(0, 3, 12 + i), four[i]);
        due.is("whole(0)", x.whole(0), 4);
        for (int kind = 0; kind < 4; kind++) {
            due.is("punch k 2", x.punch(0, kind, 2, 0), TORN);
            due.is("punch k -1", x.punch(0, kind, -1, 0), TORN);
            due.is("punch k MAX", x.punch(0, kind, MAX, 0), TORN);
            due.is("punch k MIN", x.punch(0, kind, MIN, 0), TORN);
        }
        due.is("status()", x.status(), 2);
        due.is("punch(0, 4, 0, 0)", x.punch(0, 4, 0, 0), BAD);
        due.is("punch(0, -1, 0, 0)", x.punch(0, -1, 0, 0), BAD);
        due.is("punch(1, 0, 0, 0)", x.punch(1, 0, 0, 0), BAD);
        due.is("punch(-1, 0, 0, 0)", x.punch(-1, 0, 0, 0), BAD);
        due.part("promise 4: one that was not WHOLE stays so");
        x.damage(0, 0, 9, 1);
        due.is("read(0, 0)", x.read(0, 0), SUM);
        long told = x.head(0, 0, 3);
        due.is("punch(0, 0, 1, 3)", x.punch(0, 0, 1, 3), 1);
        due.is("head(0, 0, 3)", x.head(0, 0, 3), told);
        due.is("read(0, 0)", x.read(0, 0), SUM);
        x.punch(0, 0, 0, 0);
        due.is("punch back to what was sealed", x.punch(0, 0, 1, 0x78), 1);
        due.is("read(0, 0)", x.read(0, 0), 2);
        due.part("promise 4: a WHOLE one is SEALED with its own NUMBER");
        x.strip(0, 0, 9, 2, 0);
        due.is("move(0, 0, 1, 0, 4)", x.move(0, 0, 1, 0, 4), 1);
        due.is("head(0, 4, 1)", x.head(0, 4, 1), 0);
        due.is("punch(0, 4, 0, 1)", x.punch(0, 4, 0, 1), 1);
        due.is("head(0, 4, 1)", x.head(0, 4, 1), 9);
        x.lose(0, 4);
        due.is("punch(0, 4, 7, 1)", x.punch(0, 4, 7, 1), LOST);
        x.tear(0, 3, 4);
        due.is("punch(0, 3, 0, 1)", x.punch(0, 3, 0, 1), TORN);
    }

    private static void sealing() {
        due.part("promise 5");
        Player x = new Player();
        x.roll();
        x.strip(0, 1, 300, 3, 0);
        for (int i = 0; i < 9; i++) x.damage(0, 0, i, 0x5a);
        due.is("seal(0, 0)", x.seal(0, 0), 3);
        due.is("read(0, 0)", x.read(0, 0), 3);
        int[] head = {1, 1, 44, 0, 3};
        for (int i = 0; i < 5; i++) due.is("byteOf(0, 0, " + i + ")", x.byteOf(0, 0, i), head[i]);
        x.tear(0, 0, 13);
        due.is("seal(0, 0)", x.seal(0, 0), 2);
        due.is("read(0, 0)", x.read(0, 0), 2);
        x.tear(0, 0, 0);
        due.is("byteOf(0, 0, 0)", x.byteOf(0, 0, 0), TORN);
        due.is("seal(0, 0)", x.seal(0, 0), 0);
        due.is("byteOf(0, 0, 8) is there", x.byteOf(0, 0, 8) >= 0 ? 1 : 0, 1);
        due.is("byteOf(0, 0, 9)", x.byteOf(0, 0, 9), TORN);
        due.is("read(0, 0)", x.read(0, 0), 0);
        x.lose(0, 0);
        due.is("seal(0, 0)", x.seal(0, 0), LOST);
        due.is("status()", x.status(), 1);
        due.is("seal(0, 1)", x.seal(0, 1), BAD);
        due.is("seal(1, 0)", x.seal(1, 0), BAD);
    }

    private static void losing() {
        due.part("promise 6");
        Player x = new Player();
        x.roll();
        x.strip(0, 1, 3, 3, 7);
        due.is("lose(0, 0)", x.lose(0, 0), 1);
        due.is("lose(0, 0)", x.lose(0, 0), 0);
        due.is("status()", x.status(), 0);
        due.is("strips(0)", x.strips(0), 1);
        due.is("read(0, 0)", x.read(0, 0), LOST);
        due.is("told(0, 0, 0)", x.told(0, 0, 0), 1);
        due.is("told(0, 0, 1)", x.told(0, 0, 1), 3);
        due.is("told(0, 0, 2)", x.told(0, 0, 2), 7);
        due.is("told(0, 0, 3)", x.told(0, 0, 3), 0);
        due.is("count(6)", x.count(6), 0);
        due.is("lose(0, 1)", x.lose(0, 1), BAD);
        due.is("lose(-1, 0)", x.lose(-1, 0), BAD);
    }

    private static void tearing() {
        due.part("promise 7");
        Player x = new Player();
        x.roll();
        x.strip(0, 3, 0, 4, 0);
        due.is("tear all stays", x.tear(0, 0, MAX), 4);
        due.is("tear(0, 0, 25)", x.tear(0, 0, 25), 4);
        due.is("read(0, 0)", x.read(0, 0), 4);
        due.is("tear(0, 0, 24)", x.tear(0, 0, 24), 3);
        due.is("byteOf(0, 0, 20)", x.byteOf(0, 0, 20), 0);
        due.is("byteOf(0, 0, 21)", x.byteOf(0, 0, 21), TORN);
        due.is("tear(0, 0, 21)", x.tear(0, 0, 21), 3);
        due.is("tear(0, 0, 20)", x.tear(0, 0, 20), 2);
        due.is("count(6)", x.count(6), 2);
        due.is("tear(0, 0, 12)", x.tear(0, 0, 12), 0);
        due.is("byteOf(0, 0, 9)", x.byteOf(0, 0, 9), TORN);
        due.is("byteOf(0, 0, 4)", x.byteOf(0, 0, 4), 4);
        due.is("tear(0, 0, 5)", x.tear(0, 0, 5), 0);
        due.is("byteOf(0, 0, 4)", x.byteOf(0, 0, 4), 4);
        due.is("byteOf(0, 0, 5)", x.byteOf(0, 0, 5), TORN);
        due.is("tear(0, 0, 8)", x.tear(0, 0, 8), 0);
        due.is("byteOf(0, 0, 5)", x.byteOf(0, 0, 5), TORN);
        due.is("tear(0, 0, -1)", x.tear(0, 0, -1), BAD);
        due.is("tear(0, 1, 0)", x.tear(0, 1, 0), BAD);
        due.is("tear(1, 0, 0)", x.tear(1, 0, 0), BAD);
        x.lose(0, 0);
        due.is("tear(0, 0, 0)", x.tear(0, 0, 0), LOST);
        due.is("tear(0, 0, -1)", x.tear(0, 0, -1), BAD);
        x.strip(0, 1, 0, 3, 0);
        due.is("tear(0, 1, 14)", x.tear(0, 1, 14), 2);
        x.strip(0, 0, 0, 3, 0);
        due.is("tear(0, 2, 11)", x.tear(0, 2, 11), 2);
    }

    private static void damaging() {
        due.part("promise 8");
        Player x = new Player();
        x.roll();
        x.strip(0, 0, 0, 1, 0);
        due.is("damage(0, 0, 9, -1)", x.damage(0, 0, 9, -1), 255);
        due.is("damage(0, 0, 9, 15)", x.damage(0, 0, 9, 15), 240);
        due.is("damage(0, 0, 9, 0x7f00)", x.damage(0, 0, 9, 0x7f00), 240);
        due.is("damage(0, 0, 9, 0)", x.damage(0, 0, 9, 0), 240);
        due.is("byteOf(0, 0, 9)", x.byteOf(0, 0, 9), 240);
        due.is("damage(0, 0, 10, 1)", x.damage(0, 0, 10, 1), TORN);
        due.is("damage(0, 0, -1, 1)", x.damage(0, 0, -1, 1), TORN);
        due.is("damage(0, 0, MIN, 1)", x.damage(0, 0, MIN, 1), TORN);
        due.is("damage(0, 1, 0, 1)", x.damage(0, 1, 0, 1), BAD);
        due.is("damage(-1, 0, 0, 1)", x.damage(-1, 0, 0, 1), BAD);
        x.lose(0, 0);
        due.is("damage(0, 0, 10, 1)", x.damage(0, 0, 10, 1), LOST);
    }

    private static void bytesAndHeads() {
        due.part("promises 9 and 10");
        Player x = new Player();
        x.roll();
        x.strip(0, 2, 0x1234, 256, 0);
        int[] head = {2, 0x12, 0x34, 1, 0};
        for (int i = 0; i < 5; i++) due.is("byteOf(0, 0, " + i + ")", x.byteOf(0, 0, i), head[i]);
        due.is("head(0, 0, 1)", x.head(0, 0, 1), 0x1234);
        due.is("head(0, 0, 2)", x.head(0, 0, 2), 256);
        for (int i = 0; i < 5; i++) x.damage(0, 0, i, 0x80);
        due.is("head(0, 0, 0)", x.head(0, 0, 0), 2 - 128);
        due.is("head(0, 0, 1)", x.head(0, 0, 1), (short) 0x92b4);
        due.is("head(0, 0, 2)", x.head(0, 0, 2), (short) 0x8180);
        long sum = x.head(0, 0, 3);
        due.is("byteOf(0, 0, 5)", x.byteOf(0, 0, 5), sum >> 24 & 255);
        due.is("byteOf(0, 0, 8)", x.byteOf(0, 0, 8), sum & 255);
        x.damage(0, 0, 5, 0x80);
        due.is("head(0, 0, 3)", x.head(0, 0, 3), (int) sum ^ MIN);
        due.is("head(0, 0, -1)", x.head(0, 0, -1), 0);
        due.is("status()", x.status(), BAD);
        due.is("head(0, 0, 4)", x.head(0, 0, 4), 0);
        due.is("status()", x.status(), BAD);
        due.is("head(0, 1, 0)", x.head(0, 1, 0), 0);
        due.is("status()", x.status(), BAD);
        int[] needs = {1, 3, 5, 9};
        for (int what = 3; what >= 0; what--) {
            x.tear(0, 0, needs[what]);
            x.head(0, 0, what);
            due.is("status() behind head", x.status(), 0);
            x.tear(0, 0, needs[what] - 1);
            due.is("head(0, 0, " + what + ")", x.head(0, 0, what), 0);
            due.is("status() behind head", x.status(), 2);
        }
        due.is("byteOf(0, 0, 0)", x.byteOf(0, 0, 0), TORN);
        due.is("byteOf(0, 0, -1)", x.byteOf(0, 0, -1), TORN);
        due.is("status()", x.status(), 2);
        x.lose(0, 0);
        due.is("byteOf(0, 0, 0)", x.byteOf(0, 0, 0), LOST);
        due.is("head(0, 0, 0)", x.head(0, 0, 0), 0);
        due.is("status()", x.status(), 1);
        due.is("byteOf(0, 1, 0)", x.byteOf(0, 1, 0), BAD);
        due.is("byteOf(2, 0, 0)", x.byteOf(2, 0, 0), BAD);
    }

    private static void sums() {
        due.part("promise 11");
        Player x = new Player();
        x.roll();
        x.strip(0, 0, 5, 0, 0);
        due.is("sum(0, 0)", x.sum(0, 0), 28629151 + 5 * 31 * 31);
        x.strip(0, 0, 0, 1, 0);
        due.is("sum(0, 1)", x.sum(0, 1), 28629152 * 31);
        x.punch(0, 1, 0, 255);
        due.is("sum(0, 1)", x.sum(0, 1), 28629152 * 31 - 1);
        due.is("head(0, 1, 3)", x.head(0, 1, 3), 28629152 * 31 - 1);
        x.damage(0, 1, 6, 9);
        due.is("its sum's bytes do not count", x.sum(0, 1), 28629152 * 31 - 1);
        x.damage(0, 1, 0, 128);
        due.is("bytes have a sign", x.sum(0, 1), 28629152 * 31 - 1 - 128 * 28629151);
        x.tear(0, 0, 5);
        due.is("sum(0, 0)", x.sum(0, 0), 28629151 + 5 * 31 * 31);
        x.tear(0, 0, 4);
        due.is("sum(0, 0)", x.sum(0, 0), 0);
        due.is("status()", x.status(), 2);
        x.lose(0, 0);
        due.is("sum(0, 0)", x.sum(0, 0), 0);
        due.is("status()", x.status(), 1);
        due.is("sum(0, 2)", x.sum(0, 2), 0);
        due.is("status()", x.status(), BAD);
    }

    private static void reading() {
        due.part("promise 12");
        Player x = new Player();
        x.roll();
        x.strip(0, 1, 0, 3, 0);
        due.is("read(0, 0)", x.read(0, 0), 3);
        x.damage(0, 0, 8, 1);
        due.is("the sum told", x.read(0, 0), SUM);
        x.damage(0, 0, 4, 1);
        due.is("2 is told of 3", x.read(0, 0), SHORT);
        due.is("status()", x.status(), 8);
        x.damage(0, 0, 4, 2 ^ 4);
        due.is("4 is told of 3", x.read(0, 0), LONG);
        x.damage(0, 0, 3, 128);
        due.is("below 0 is told", x.read(0, 0), SIZE);
        x.damage(0, 0, 0, 1);
        due.is("HOLES are told", x.read(0, 0), KIND);
        due.is("status()", x.status(), 5);
        x.tear(0, 0, 8);
        due.is("a HEAD of 8", x.read(0, 0), TORN);
        x.lose(0, 0);
        due.is("nothing", x.read(0, 0), LOST);
        due.is("read(0, 1)", x.read(0, 1), BAD);
        due.is("read(1, 0)", x.read(1, 0), BAD);
        due.is("status()", x.status(), BAD);
        due.part("promise 12: another NUMBER is found out by the sum alone");
        x.strip(0, 0, 4, 0, 0);
        x.damage(0, 1, 2, 1);
        due.is("read(0, 1)", x.read(0, 1), SUM);
        long sum = x.sum(0, 1);
        for (int i = 0; i < 4; i++) x.damage(0, 1, 5 + i, x.byteOf(0, 1, 5 + i) ^ (int) (sum >> 24 - 8 * i));
        due.is("read(0, 1)", x.read(0, 1), 0);
        due.part("promise 12: length 0 of 0, and -1 of 0");
        x.strip(0, 0, 0, 0, 0);
        x.damage(0, 2, 3, 255);
        x.damage(0, 2, 4, 255);
        due.is("read(0, 2)", x.read(0, 2), SIZE);
    }

    private static void wholeAndFinding() {
        due.part("promises 13 and 14");
        Player x = new Player();
        due.is("whole(0)", x.whole(0), BAD);
        due.is("finding(0, 0)", x.finding(0, 0), BAD);
        x.roll();
        due.is("whole(0)", x.whole(0), 0);
        due.is("finding(0, 0)", x.finding(0, 0), NONE);
        due.is("status()", x.status(), 0);
        for (int i = 0; i < 6; i++) x.strip(0, i % 4, i, 2, 0);
        due.is("whole(0)", x.whole(0), 6);
        x.damage(0, 1, 0, 1);
        x.lose(0, 2);
        x.tear(0, 5, 0);
        due.is("whole(0)", x.whole(0), 3);
        due.is("finding(0, 0)", x.finding(0, 0), 1);
        due.is("finding(0, 1)", x.finding(0, 1), 2);
        due.is("finding(0, 2)", x.finding(0, 2), 5);
        due.is("finding(0, 3)", x.finding(0, 3), NONE);
        due.is("finding(0, MAX)", x.finding(0, MAX), NONE);
        due.is("finding(0, -1)", x.finding(0, -1), BAD);
        due.is("finding(1, 0)", x.finding(1, 0), BAD);
        due.is("whole(-1)", x.whole(-1), BAD);
    }

    private static void told() {
        due.part("promise 15");
        Player x = new Player();
        x.roll();
        x.strip(0, 2, 30000, 5, 256);
        int[] list = {2, 30000, 256, 5};
        for (int what = 0; what < 4; what++) due.is("told", x.told(0, 0, what), list[what]);
        x.damage(0, 0, 0, 1);
        x.damage(0, 0, 1, 1);
        x.damage(0, 0, 4, 1);
        for (int what = 0; what < 4; what++) due.is("told", x.told(0, 0, what), list[what]);
        x.tear(0, 0, 13);
        due.is("told(0, 0, 3)", x.told(0, 0, 3), 2);
        due.is("told(0, 0, -1)", x.told(0, 0, -1), BAD);
        due.is("told(0, 0, 4)", x.told(0, 0, 4), BAD);
        due.is("told(0, 1, 0)", x.told(0, 1, 0), BAD);
        due.is("told(1, 0, 0)", x.told(1, 0, 0), BAD);
    }

    private static void busy() {
        due.part("promises 3 to 15 while a ROLL is PLAYED");
        Player x = playing();
        due.is("strip", x.strip(0, 0, 0, 0, 0), BUSY);
        due.is("strip below 0", x.strip(0, 0, 0, -1, 0), BUSY);
        due.is("punch", x.punch(0, 0, 0, 1), BUSY);
        due.is("punch nowhere", x.punch(0, 0, 5, 1), BUSY);
        due.is("seal", x.seal(0, 0), BUSY);
        due.is("lose", x.lose(0, 0), BUSY);
        due.is("tear", x.tear(0, 0, 0), BUSY);
        due.is("damage", x.damage(0, 0, 0, 1), BUSY);
        due.is("status()", x.status(), BUSY);
        due.is("BAD comes first", x.strip(0, 4, 0, 0, 0), BAD);
        due.is("BAD comes first", x.punch(0, 1, 0, 1), BAD);
        due.is("BAD comes first", x.seal(0, 1), BAD);
        due.is("BAD comes first", x.lose(0, 1), BAD);
        due.is("BAD comes first", x.tear(0, 0, -1), BAD);
        due.is("BAD comes first", x.damage(0, 1, 0, 1), BAD);
        due.is("byteOf", x.byteOf(0, 0, 4), 2);
        due.is("head", x.head(0, 0, 2), 2);
        due.is("sum", x.sum(0, 0), x.head(0, 0, 3));
        due.is("read", x.read(0, 0), 2);
        due.is("whole", x.whole(0), 1);
        due.is("finding", x.finding(0, 0), NONE);
        due.is("told", x.told(0, 0, 3), 2);
    }
}
