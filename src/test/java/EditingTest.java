/** Promises 39 to 48, worked out by hand. */
public final class EditingTest {
    private static final int BAD = -1, FULL = -2, BUSY = -3, NONE = -4;
    private static final int LOST = -11, TORN = -12, SPAN = -14, KIND = -15, SUM = -19;
    private static final int MIN = Integer.MIN_VALUE, MAX = Integer.MAX_VALUE;

    private static final Due due = new Due("editing");

    public static void main(String[] args) {
        cutting();
        joining();
        joiningAtMost();
        repeating();
        moving();
        movingAmongItself();
        movingAtMost();
        copying();
        transposing();
        transposingRefused();
        mending();
        mendingAtMost();
        equality();
        digests();
        busy();
        due.end();
    }

    /** ROLL 0 has n STRIPS of LEVELS, their NUMBERS from 0 on, of as many ELEMENTS as their NUMBERS; ROLL 1 has none. */
    private static Player levels(int n) {
        Player x = new Player();
        x.roll();
        x.roll();
        for (int i = 0; i < n; i++) x.strip(0, 1, i, i, i);
        return x;
    }

    private static void numbers(Player x, int roll, int... want) {
        due.is("strips(" + roll + ")", x.strips(roll), want.length);
        for (int s = 0; s < want.length; s++) due.is("told(" + roll + ", " + s + ", 1)", x.told(roll, s, 1), want[s]);
    }

    private static void cutting() {
        due.part("promise 39");
        Player x = levels(5);
        due.is("cut(0, -1)", x.cut(0, -1), BAD);
        due.is("cut(0, 6)", x.cut(0, 6), BAD);
        due.is("cut(2, 0)", x.cut(2, 0), BAD);
        due.is("cut(-1, 0)", x.cut(-1, 0), BAD);
        due.is("cut(0, 3)", x.cut(0, 3), 2);
        numbers(x, 0, 0, 1, 2);
        numbers(x, 2, 3, 4);
        due.is("cut(0, 3)", x.cut(0, 3), 3);
        numbers(x, 3);
        due.is("cut(0, 0)", x.cut(0, 0), 4);
        numbers(x, 0);
        numbers(x, 4, 0, 1, 2);
        due.is("count(0)", x.count(0), 5);
        due.is("count(6)", x.count(6), 10);
        x.damage(4, 1, 0, 1);
        x.lose(4, 2);
        due.is("cut(4, 1)", x.cut(4, 1), 5);
        due.is("BYTES go with it", x.read(5, 0), KIND);
        due.is("LOST ones do", x.read(5, 1), LOST);
        due.is("strip(4, ..) comes behind what is left", x.strip(4, 0, 9, 0, 0), 1);
        for (int r = 6; r < 20; r++) due.is("cut(5, 2)", x.cut(5, 2), r);
        due.is("cut(5, 0)", x.cut(5, 0), FULL);
        due.is("cut(5, 3)", x.cut(5, 3), BAD);
        numbers(x, 5, 1, 2);
        due.part("promise 39: STRIPS go, none comes");
        Player y = levels(0);
        for (int i = 0; i < 400; i++) y.strip(0, 0, 0, 0, 0);
        due.is("cut(0, 1)", y.cut(0, 1), 2);
        due.is("strips(2)", y.strips(2), 399);
        due.is("still 400", y.strip(0, 0, 0, 0, 0), FULL);
    }

    private static void joining() {
        due.part("promise 40");
        Player x = levels(3);
        x.strip(1, 3, 9, 2, 7);
        x.strip(1, 0, 8, 1, 6);
        x.strip(1, 0, 7, 1, 5);
        x.punch(1, 0, 1, 0x01020304);
        x.damage(1, 1, 9, 1);
        x.lose(1, 2);
        due.is("join(0, 0)", x.join(0, 0), BAD);
        due.is("join(0, 2)", x.join(0, 2), BAD);
        due.is("join(2, 0)", x.join(2, 0), BAD);
        due.is("join(-1, 0)", x.join(-1, 0), BAD);
        due.is("join(0, 1)", x.join(0, 1), 6);
        numbers(x, 0, 0, 1, 2, 9, 8, 7);
        numbers(x, 1, 9, 8, 7);
        due.is("count(6)", x.count(6), 3 + 2 * 3);
        due.is("read(0, 3)", x.read(0, 3), 2);
        due.is("read(0, 4)", x.read(0, 4), SUM);
        due.is("read(0, 5)", x.read(0, 5), LOST);
        due.is("told(0, 3, 2)", x.told(0, 3, 2), 7);
        due.is("byteOf(0, 3, 16)", x.byteOf(0, 3, 16), 4);
        x.punch(0, 3, 1, 0);
        due.is("a copy, not itself", x.byteOf(1, 0, 16), 4);
        x.roll();
        due.is("join(2, 0)", x.join(2, 0), 6);
        due.is("equal(2, 0)", x.equal(2, 0), 1);
        x.roll();
        due.is("join(0, 3) of none", x.join(0, 3), 6);
    }

    private static void joiningAtMost() {
        due.part("promise 40, at most");
        Player x = levels(0);
        for (int i = 0; i < 200; i++) x.strip(0, 0, 0, 0, 0);
        due.is("join(1, 0)", x.join(1, 0), 200);
        x.roll();
        due.is("join(2, 0)", x.join(2, 0), FULL);
        due.is("status()", x.status(), FULL);
        due.is("strips(2)", x.strips(2), 0);
        due.is("join(0, 2) of none", x.join(0, 2), 200);
        Player y = levels(0);
        for (int i = 0; i < 15; i++) y.strip(0, 3, 0, 256, 0);
        y.strip(0, 3, 0, 160, 0);
        due.is("count(6)", y.count(6), 4000);
        y.strip(1, 0, 0, 1, 0);
        due.is("join(1, 0)", y.join(1, 0), FULL);
        due.is("strips(1)", y.strips(1), 1);
        due.is("count(6)", y.count(6), 4001);
        y.lose(1, 0);
        due.is("join(1, 0)", y.join(1, 0), 17);
        due.is("count(6)", y.count(6), 8000);
    }

    private static void repeating() {
        due.part("promise 41");
        Player x = levels(4);
        x.lose(0, 2);
        due.is("repeat(0, 1, 2)", x.repeat(0, 1, 2), 6);
        numbers(x, 0, 0, 1, 2, 1, 2, 3);
        due.is("read(0, 3)", x.read(0, 3), 1);
        due.is("read(0, 4)", x.read(0, 4), LOST);
        due.is("count(6)", x.count(6), 0 + 1 + 0 + 1 + 0 + 3);
        x.punch(0, 3, 0, 5);
        due.is("a copy, not itself", x.byteOf(0, 1, 10), 0);
        due.is("repeat(0, 0, 0)", x.repeat(0, 0, 0), 6);
        due.is("repeat(0, 6, 0)", x.repeat(0, 6, 0), 6);
        due.is("repeat(0, 5, 1)", x.repeat(0, 5, 1), 7);
        due.is("repeat(0, 0, 7)", x.repeat(0, 0, 7), 14);
        numbers(x, 0, 0, 1, 2, 1, 2, 3, 3, 0, 1, 2, 1, 2, 3, 3);
        int[][] bad = {{0, 0, -1}, {0, 0, 9}, {0, -1, 1}, {0, 14, 1}, {0, 7, 8}, {0, MAX, 8}, {0, MAX, 1}, {0, MIN, 1},
            {2, 0, 0}, {-1, 0, 0}, {1, 0, 1}};
        for (int[] b : bad) due.is("a bad repeat", x.repeat(b[0], b[1], b[2]), BAD);
        due.is("repeat(1, 0, 0)", x.repeat(1, 0, 0), 0);
        due.part("promise 41, at most");
        Player y = levels(0);
        for (int i = 0; i < 395; i++) y.strip(0, 0, i, 0, 0);
        due.is("repeat(0, 0, 6)", y.repeat(0, 0, 6), FULL);
        due.is("repeat(0, 0, 5)", y.repeat(0, 0, 5), 400);
        due.is("repeat(0, 0, 1)", y.repeat(0, 0, 1), FULL);
        due.is("repeat(0, 0, 0)", y.repeat(0, 0, 0), 400);
        due.is("told(0, 9, 1)", y.told(0, 9, 1), 4);
        due.is("told(0, 399, 1)", y.told(0, 399, 1), 394);
        Player z = levels(0);
        for (int i = 0; i < 31; i++) z.strip(0, 0, i, 256, 0);
        z.strip(0, 0, 0, 32, 0);
        due.is("256 too many", z.repeat(0, 0, 1), FULL);
        due.is("repeat(0, 31, 1)", z.repeat(0, 31, 1), 33);
        due.is("repeat(0, 31, 1)", z.repeat(0, 31, 1), FULL);
    }

    private static void moving() {
        due.part("promise 42");
        Player x = levels(4);
        for (int i = 0; i < 4; i++) x.strip(1, 1, 10 + i, 1, 9);
        x.punch(0, 1, 0, 77);
        due.is("move(0, 1, 2, 1, 0)", x.move(0, 1, 2, 1, 0), 2);
        due.is("status()", x.status(), 0);
        due.is("told(1, 0, 1)", x.told(1, 0, 1), 10);
        due.is("told(1, 0, 2)", x.told(1, 0, 2), 9);
        due.is("told(1, 1, 3)", x.told(1, 1, 3), 2);
        due.is("its HEAD came, too", x.head(1, 0, 1), 1);
        due.is("byteOf(1, 0, 10)", x.byteOf(1, 0, 10), 77);
        due.is("read(1, 0)", x.read(1, 0), 1);
        due.is("count(6)", x.count(6), 6 + 1 + 2 + 1 + 1);
        x.damage(0, 1, 10, 1);
        due.is("a copy", x.byteOf(1, 0, 10), 77);
        due.is("move(0, 0, 0, 1, 0)", x.move(0, 0, 0, 1, 0), 0);
        due.is("status()", x.status(), 0);
        due.part("promise 42: it ends earlier");
        due.is("move(0, 2, 8, 1, 0)", x.move(0, 2, 8, 1, 0), 2);
        due.is("status()", x.status(), 2);
        due.is("move(0, 0, 8, 1, 3)", x.move(0, 0, 8, 1, 3), 1);
        due.is("status()", x.status(), 2);
        due.is("move(0, -1, 1, 1, 0)", x.move(0, -1, 1, 1, 0), 0);
        due.is("status()", x.status(), 2);
        due.is("move(0, 0, 1, 1, -1)", x.move(0, 0, 1, 1, -1), 0);
        due.is("status()", x.status(), 2);
        due.is("move(0, MAX, 8, 1, MAX)", x.move(0, MAX, 8, 1, MAX), 0);
        due.is("status()", x.status(), 2);
        due.is("move(0, MIN, 8, 1, 0)", x.move(0, MIN, 8, 1, 0), 0);
        x.lose(0, 1);
        due.is("move(0, 0, 3, 1, 0)", x.move(0, 0, 3, 1, 0), 1);
        due.is("status()", x.status(), 1);
        x.lose(1, 2);
        due.is("move(0, 2, 2, 1, 1)", x.move(0, 2, 2, 1, 1), 1);
        due.is("status()", x.status(), 1);
        due.is("read(1, 2)", x.read(1, 2), LOST);
        x.strip(0, 0, 0, 0, 0);
        due.is("move(0, 3, 2, 1, 0)", x.move(0, 3, 2, 1, 0), 1);
        due.is("status()", x.status(), 5);
        due.is("LOST comes ahead of KIND", x.move(0, 4, 1, 1, 2), 0);
        due.is("status()", x.status(), 1);
        due.is("move(0, 0, -1, 1, 0)", x.move(0, 0, -1, 1, 0), BAD);
        due.is("move(0, 0, 9, 1, 0)", x.move(0, 0, 9, 1, 0), BAD);
        due.is("move(2, 0, 1, 1, 0)", x.move(2, 0, 1, 1, 0), BAD);
        due.is("move(0, 0, 1, 2, 0)", x.move(0, 0, 1, 2, 0), BAD);
        due.is("status()", x.status(), BAD);
        due.part("promise 42: torn ones move, too");
        x.tear(0, 3, 3);
        due.is("move(0, 3, 1, 1, 3)", x.move(0, 3, 1, 1, 3), 1);
        due.is("read(1, 3)", x.read(1, 3), TORN);
        due.is("byteOf(1, 3, 2)", x.byteOf(1, 3, 2), 3);
        due.is("byteOf(1, 3, 3)", x.byteOf(1, 3, 3), TORN);
    }

    private static void movingAmongItself() {
        due.part("promise 42: one by one in one ROLL");
        Player x = levels(5);
        due.is("move(0, 1, 3, 0, 2)", x.move(0, 1, 3, 0, 2), 3);
        int[] lengths = {0, 1, 1, 1, 1};
        for (int s = 0; s < 5; s++) due.is("told(0, s, 3)", x.told(0, s, 3), lengths[s]);
        Player y = levels(5);
        due.is("move(0, 2, 3, 0, 1)", y.move(0, 2, 3, 0, 1), 3);
        int[] then = {0, 2, 3, 4, 4};
        for (int s = 0; s < 5; s++) due.is("told(0, s, 3)", y.told(0, s, 3), then[s]);
        due.is("onto itself", y.move(0, 0, 5, 0, 0), 5);
        due.is("count(6)", y.count(6), 13);
        due.is("whole(0)", y.whole(0), 5);
    }

    private static void movingAtMost() {
        due.part("promise 42, at most");
        Player x = levels(0);
        for (int i = 0; i < 31; i++) x.strip(0, 0, 0, 256, 0);
        x.strip(1, 0, 0, 32, 0);
        x.strip(1, 0, 0, 16, 0);
        x.strip(1, 0, 0, 0, 0);
        x.strip(1, 0, 0, 0, 0);
        due.is("count(6)", x.count(6), 7984);
        due.is("move(1, 0, 1, 1, 2)", x.move(1, 0, 1, 1, 2), 0);
        due.is("status()", x.status(), FULL);
        due.is("move(1, 1, 2, 1, 2)", x.move(1, 1, 2, 1, 2), 1);
        due.is("status()", x.status(), FULL);
        due.is("count(6)", x.count(6), 8000);
        due.is("as many for as many", x.move(0, 0, 3, 0, 7), 3);
        due.is("fewer", x.move(1, 2, 1, 0, 0), 1);
        due.is("count(6)", x.count(6), 8000 - 256 + 16);
        due.is("more", x.move(0, 1, 1, 0, 0), 1);
        due.is("more is too many", x.move(0, 1, 1, 1, 3), 0);
        due.is("status()", x.status(), FULL);
    }

    private static void copying() {
        due.part("promise 43");
        Player x = levels(0);
        x.strip(0, 1, 0, 6, 0);
        x.strip(1, 1, 0, 4, 0);
        x.strip(1, 2, 0, 4, 0);
        for (int k = 0; k < 6; k++) x.punch(0, 0, k, 100 + k);
        long sum = x.head(1, 0, 3);
        due.is("copy", x.copy(0, 0, 1, 3, 1, 0, 1), 3);
        int[] want = {0, 101, 102, 103};
        for (int k = 0; k < 4; k++) due.is("byteOf", x.byteOf(1, 0, 10 + 2 * k), want[k]);
        due.is("HEADS stay", x.head(1, 0, 3), sum);
        due.is("read(1, 0)", x.read(1, 0), SUM);
        due.part("promise 43: as they were");
        due.is("copy up", x.copy(0, 0, 0, 4, 0, 0, 1), 4);
        int[] up = {100, 100, 101, 102, 103, 105};
        for (int k = 0; k < 6; k++) due.is("byteOf", x.byteOf(0, 0, 10 + 2 * k), up[k]);
        due.is("copy down", x.copy(0, 0, 2, 4, 0, 0, 1), 4);
        int[] down = {100, 101, 102, 103, 105, 105};
        for (int k = 0; k < 6; k++) due.is("byteOf", x.byteOf(0, 0, 10 + 2 * k), down[k]);
        due.part("promise 43: SPAN");
        due.is("all", x.copy(1, 0, 0, 4, 0, 0, 2), 4);
        due.is("n 0 behind the last", x.copy(0, 0, 6, 0, 1, 0, 4), 0);
        due.is("n 0 beyond", x.copy(0, 0, 7, 0, 1, 0, 4), SPAN);
        due.is("n 0 beyond the other", x.copy(0, 0, 6, 0, 1, 0, 5), SPAN);
        due.is("n -1", x.copy(0, 0, 1, -1, 1, 0, 1), SPAN);
        due.is("n MIN", x.copy(0, 0, 1, MIN, 1, 0, 1), SPAN);
        due.is("n MAX", x.copy(0, 0, 1, MAX, 1, 0, 1), SPAN);
        due.is("from -1", x.copy(0, 0, -1, 1, 1, 0, 1), SPAN);
        due.is("at -1", x.copy(0, 0, 1, 1, 1, 0, -1), SPAN);
        due.is("from MAX", x.copy(0, 0, MAX, 1, 1, 0, 1), SPAN);
        due.is("at MAX", x.copy(0, 0, 0, 1, 1, 0, MAX), SPAN);
        due.is("from 3 n 4", x.copy(0, 0, 3, 4, 1, 0, 0), SPAN);
        due.is("at 1 n 4", x.copy(0, 0, 0, 4, 1, 0, 1), SPAN);
        due.is("status()", x.status(), 4);
        due.part("promise 43: the rest");
        due.is("unlike ones", x.copy(0, 0, 0, 1, 1, 1, 0), KIND);
        due.is("KIND comes ahead of SPAN", x.copy(0, 0, 0, -1, 1, 1, 0), KIND);
        due.is("no strip", x.copy(0, 1, 0, 1, 1, 0, 0), BAD);
        due.is("no other", x.copy(0, 0, 0, 1, 1, 2, 0), BAD);
        due.is("no roll", x.copy(2, 0, 0, 1, 1, 0, 0), BAD);
        due.is("no other roll", x.copy(0, 0, 0, 1, 2, 0, 0), BAD);
        x.tear(1, 0, 4);
        due.is("a torn one has none", x.copy(0, 0, 0, 1, 1, 0, 0), SPAN);
        due.is("not even of these", x.copy(1, 0, 0, 0, 0, 0, 0), 0);
        x.lose(1, 1);
        due.is("LOST comes ahead of KIND", x.copy(0, 0, 0, 1, 1, 1, 0), LOST);
        due.is("LOST comes ahead of KIND", x.copy(1, 1, 0, 1, 0, 0, 0), LOST);
        due.is("status()", x.status(), 1);
        for (int kind : new int[] {0, 3}) {
            x.roll();
            int r = x.count(0) - 1;
            x.strip(r, kind, 0, 2, 0);
            x.strip(r, kind, 0, 2, 0);
            x.punch(r, 0, 1, 0x01020304);
            due.is("copy", x.copy(r, 0, 1, 1, r, 1, 0), 1);
            int width = kind == 0 ? 1 : 4;
            due.is("byteOf", x.byteOf(r, 1, 9 + width - 1), 4);
            due.is("byteOf", x.byteOf(r, 1, 9), kind == 0 ? 4 : 1);
            due.is("byteOf", x.byteOf(r, 1, 9 + width), 0);
        }
    }

    private static void transposing() {
        due.part("promises 44 and 45");
        Player x = levels(0);
        x.strip(0, 0, 5, 4, 0);
        int[] holes = {0x81, 0x00, 0xff, 0x18};
        for (int k = 0; k < 4; k++) x.punch(0, 0, k, holes[k]);
        due.is("fallen(0, 0)", x.fallen(0, 0), NONE);
        due.is("transpose(0, 0, 2)", x.transpose(0, 0, 2), 3);
        int[] up = {0x04, 0x00, 0xfc, 0x60};
        for (int k = 0; k < 4; k++) due.is("byteOf", x.byteOf(0, 0, 9 + k), up[k]);
        due.is("it is SEALED", x.read(0, 0), 4);
        int[][] fell = {{0, 7}, {2, 6}, {2, 7}};
        for (int k = 0; k < 3; k++) {
            due.is("fallen", x.fallen(k, 0), fell[k][0]);
            due.is("fallen", x.fallen(k, 1), fell[k][1]);
        }
        due.is("fallen(3, 0)", x.fallen(3, 0), NONE);
        due.is("count(5)", x.count(5), 3);
        due.is("transpose(0, 0, -6)", x.transpose(0, 0, -6), 6);
        int[] down = {0x00, 0x00, 0x03, 0x01};
        for (int k = 0; k < 4; k++) due.is("byteOf", x.byteOf(0, 0, 9 + k), down[k]);
        int[][] then = {{0, 2}, {2, 2}, {2, 3}, {2, 4}, {2, 5}, {3, 5}};
        for (int k = 0; k < 6; k++) {
            due.is("fallen", x.fallen(k, 0), then[k][0]);
            due.is("fallen", x.fallen(k, 1), then[k][1]);
        }
        due.is("fallen(-1, 0)", x.fallen(-1, 0), BAD);
        due.is("fallen(0, 2)", x.fallen(0, 2), BAD);
        due.is("fallen(0, -1)", x.fallen(0, -1), BAD);
        due.is("fallen(MAX, 1)", x.fallen(MAX, 1), NONE);
        due.is("status()", x.status(), 0);
        due.is("refused: what was stays", x.transpose(0, 0, 8), BAD);
        due.is("count(5)", x.count(5), 6);
        due.is("transpose(0, 0, 7)", x.transpose(0, 0, 7), 1);
        due.is("byteOf(0, 0, 11)", x.byteOf(0, 0, 11), 0x80);
        due.is("fallen(0, 1)", x.fallen(0, 1), 1);
        due.is("transpose(0, 0, -7)", x.transpose(0, 0, -7), 0);
        due.is("byteOf(0, 0, 11)", x.byteOf(0, 0, 11), 1);
        due.is("in place of what was", x.count(5), 0);
        due.part("promises 44 and 45, at most");
        x.strip(0, 0, 0, 256, 0);
        for (int k = 0; k < 256; k++) x.punch(0, 1, k, 255);
        due.is("transpose(0, 1, 7)", x.transpose(0, 1, 7), 256 * 7);
        due.is("fallen(1791, 0)", x.fallen(1791, 0), 255);
        due.is("fallen(1791, 1)", x.fallen(1791, 1), 7);
        due.is("fallen(1792, 0)", x.fallen(1792, 0), NONE);
        due.part("promise 44: it is SEALED with its own NUMBER");
        x.strip(0, 0, 3, 0, 0);
        x.move(0, 0, 1, 0, 2);
        due.is("head(0, 2, 1)", x.head(0, 2, 1), 5);
        due.is("transpose(0, 2, 0)", x.transpose(0, 2, 0), 0);
        due.is("head(0, 2, 1)", x.head(0, 2, 1), 3);
    }

    private static void transposingRefused() {
        due.part("promise 44, refused");
        Player x = levels(2);
        x.strip(1, 0, 0, 1, 0);
        x.punch(1, 0, 0, 3);
        due.is("transpose(1, 0, -1)", x.transpose(1, 0, -1), 1);
        due.is("transpose(1, 0, 8)", x.transpose(1, 0, 8), BAD);
        due.is("transpose(1, 0, -8)", x.transpose(1, 0, -8), BAD);
        due.is("transpose(1, 1, 0)", x.transpose(1, 1, 0), BAD);
        due.is("transpose(2, 0, 0)", x.transpose(2, 0, 0), BAD);
        due.is("transpose(0, 1, 0)", x.transpose(0, 1, 0), KIND);
        x.lose(0, 1);
        due.is("KIND comes ahead of LOST", x.transpose(0, 1, 0), KIND);
        x.damage(1, 0, 9, 1);
        due.is("transpose(1, 0, 1)", x.transpose(1, 0, 1), SUM);
        due.is("byteOf(1, 0, 9)", x.byteOf(1, 0, 9), 0);
        x.tear(1, 0, 8);
        due.is("transpose(1, 0, 1)", x.transpose(1, 0, 1), TORN);
        x.lose(1, 0);
        due.is("transpose(1, 0, 1)", x.transpose(1, 0, 1), LOST);
        due.is("status()", x.status(), 1);
        due.is("what was FALLEN is", x.fallen(0, 1), 0);
        due.is("count(5)", x.count(5), 1);
    }

    private static void mending() {
        due.part("promise 46");
        Player x = levels(0);
        x.strip(0, 1, 5, 2, 0);
        x.strip(1, 0, 5, 1, 0);
        x.strip(1, 1, 4, 1, 0);
        x.strip(1, 1, 5, 3, 0);
        x.strip(1, 1, 5, 4, 9);
        x.strip(1, 1, 5, 6, 0);
        x.damage(1, 2, 9, 1);
        x.punch(1, 3, 3, 77);
        due.is("it is WHOLE itself", x.mend(0, 0, 1), 0);
        due.is("told(0, 0, 3)", x.told(0, 0, 3), 2);
        due.is("so is this one", x.mend(1, 4, 0), 4);
        x.damage(0, 0, 8, 1);
        due.is("mend(0, 0, 1)", x.mend(0, 0, 1), 3);
        due.is("read(0, 0)", x.read(0, 0), 4);
        due.is("byteOf(0, 0, 16)", x.byteOf(0, 0, 16), 77);
        due.is("THE LIST stays", x.told(0, 0, 2), 0);
        due.is("count(6)", x.count(6), 4 + 1 + 1 + 3 + 4 + 6);
        x.lose(0, 0);
        due.is("of a LOST one", x.mend(0, 0, 1), 3);
        due.is("read(0, 0)", x.read(0, 0), 4);
        x.punch(0, 0, 3, 0);
        due.is("a copy", x.byteOf(1, 3, 16), 77);
        x.tear(0, 0, 2);
        due.is("of a torn one, of another length", x.mend(0, 0, 1), 3);
        due.is("of the same ROLL", x.mend(1, 2, 1), 3);
        due.is("read(1, 2)", x.read(1, 2), 4);
        x.damage(1, 1, 8, 1);
        due.is("there is none", x.mend(1, 1, 0), NONE);
        due.is("not even itself", x.mend(1, 1, 1), NONE);
        due.is("status()", x.status(), 0);
        due.is("mend(0, 1, 1)", x.mend(0, 1, 1), BAD);
        due.is("mend(2, 0, 1)", x.mend(2, 0, 1), BAD);
        due.is("mend(0, 0, 2)", x.mend(0, 0, 2), BAD);
        due.part("promise 46: by THE LIST's NUMBER, not the HEAD's");
        x.strip(0, 1, 8, 1, 0);
        x.strip(0, 1, 9, 1, 0);
        x.strip(0, 1, 9, 2, 0);
        x.move(0, 1, 1, 0, 2);
        x.damage(0, 3, 8, 1);
        due.is("mend(0, 3, 0)", x.mend(0, 3, 0), 2);
        due.is("head(0, 3, 1)", x.head(0, 3, 1), 8);
    }

    private static void mendingAtMost() {
        due.part("promise 46, at most");
        Player x = levels(0);
        for (int i = 0; i < 31; i++) x.strip(0, 0, i, 256, 0);
        x.strip(1, 0, 40, 33, 0);
        x.strip(1, 0, 40, 10, 0);
        x.strip(1, 0, 40, 20, 0);
        x.lose(1, 2);
        due.is("count(6)", x.count(6), 7936 + 43);
        due.is("the first alone is tried", x.mend(1, 2, 1), FULL);
        due.is("status()", x.status(), FULL);
        due.is("read(1, 2)", x.read(1, 2), LOST);
        x.tear(1, 1, 9);
        due.is("count(6)", x.count(6), 7936 + 33);
        due.is("mend(1, 2, 1)", x.mend(1, 2, 1), FULL);
        x.tear(0, 0, 263);
        due.is("254 of 256", x.mend(1, 2, 1), 0);
        due.is("count(6)", x.count(6), 8000);
    }

    private static void equality() {
        due.part("promise 47");
        Player x = levels(3);
        due.is("equal(0, 2)", x.equal(0, 2), BAD);
        due.is("equal(-1, 0)", x.equal(-1, 0), BAD);
        due.is("equal(0, 1)", x.equal(0, 1), 0);
        due.is("equal(1, 1)", x.equal(1, 1), 1);
        x.join(1, 0);
        due.is("equal(0, 1)", x.equal(0, 1), 1);
        x.damage(1, 2, 12, 1);
        due.is("a byte", x.equal(0, 1), 0);
        x.damage(0, 2, 12, 1);
        due.is("equal(0, 1)", x.equal(0, 1), 1);
        for (int i = 0; i < 13; i++) {
            x.damage(1, 2, i, 64);
            due.is("byte " + i, x.equal(0, 1), 0);
            x.damage(1, 2, i, 64);
        }
        due.is("equal(0, 1)", x.equal(0, 1), 1);
        x.lose(0, 1);
        due.is("LOST here", x.equal(0, 1), 0);
        due.is("LOST there", x.equal(1, 0), 0);
        x.tear(1, 1, 0);
        due.is("nothing of it is not LOST", x.equal(0, 1), 0);
        x.lose(1, 1);
        due.is("equal(0, 1)", x.equal(0, 1), 1);
        x.tear(0, 2, 11);
        due.is("fewer bytes", x.equal(0, 1), 0);
        due.is("more bytes", x.equal(1, 0), 0);
        x.lose(0, 2);
        x.lose(1, 2);
        due.is("equal(0, 1)", x.equal(0, 1), 1);
        int[][] unlike = {{0, 0, 0, 0}, {1, 1, 0, 0}, {1, 0, 0, 1}};
        for (int[] u : unlike) {
            Player y = levels(0);
            y.strip(0, 1, 0, 0, 0);
            y.strip(1, u[0], u[1], u[2], u[3]);
            y.lose(0, 0);
            y.lose(1, 0);
            due.is("another LIST", y.equal(0, 1), 0);
        }
        x.strip(0, 0, 0, 0, 0);
        due.is("one more", x.equal(0, 1), 0);
        due.is("one less", x.equal(1, 0), 0);
    }

    private static void digests() {
        due.part("promise 48");
        Player x = levels(0);
        due.is("digest(0)", x.digest(0), 7);
        due.is("status()", x.status(), 0);
        due.is("digest(2)", x.digest(2), 0);
        due.is("status()", x.status(), BAD);
        x.strip(0, 3, 30000, 0, 256);
        x.lose(0, 0);
        int s = ((7 * 31 + 3) * 31 + 30000) * 31 + 256;
        due.is("a LOST one", x.digest(0), s);
        x.strip(0, 0, 5, 1, 2);
        x.punch(0, 1, 0, 255);
        s = ((s * 31 + 0) * 31 + 5) * 31 + 2;
        for (int i = 0; i < 10; i++) s = s * 31 + (byte) x.byteOf(0, 1, i);
        due.is("with sign, 32 bits", x.digest(0), s);
        x.tear(0, 1, 1);
        s = ((((7 * 31 + 3) * 31 + 30000) * 31 + 256) * 31 + 0) * 31 + 5;
        due.is("a torn one", x.digest(0), (s * 31 + 2) * 31);
    }

    private static void busy() {
        due.part("promises 39 to 48 while a ROLL is PLAYED");
        Player x = levels(2);
        x.strip(1, 0, 0, 1, 0);
        x.play(0);
        due.is("cut", x.cut(0, 0), BUSY);
        due.is("cut(0, 3)", x.cut(0, 3), BAD);
        due.is("join", x.join(0, 1), BUSY);
        due.is("join(0, 0)", x.join(0, 0), BAD);
        due.is("repeat", x.repeat(0, 0, 1), BUSY);
        due.is("repeat(0, 2, 1)", x.repeat(0, 2, 1), BAD);
        due.is("move", x.move(0, 0, 1, 1, 0), BUSY);
        due.is("status()", x.status(), BUSY);
        due.is("move(0, 0, 9, 1, 0)", x.move(0, 0, 9, 1, 0), BAD);
        due.is("copy", x.copy(0, 0, 0, 0, 0, 0, 0), BUSY);
        due.is("copy, unlike ones", x.copy(0, 0, 0, 0, 1, 0, 0), BUSY);
        due.is("copy(0, 2, ..)", x.copy(0, 2, 0, 0, 0, 0, 0), BAD);
        due.is("transpose", x.transpose(1, 0, 1), BUSY);
        due.is("transpose, no HOLES", x.transpose(0, 0, 1), BUSY);
        due.is("transpose(1, 0, 8)", x.transpose(1, 0, 8), BAD);
        due.is("mend", x.mend(0, 0, 1), BUSY);
        due.is("mend(0, 2, 1)", x.mend(0, 2, 1), BAD);
        due.is("fallen(0, 0)", x.fallen(0, 0), NONE);
        due.is("equal(0, 0)", x.equal(0, 0), 1);
        due.is("digest(0) is there", x.digest(0) == 0 ? 0 : 1, 1);
        due.is("strips(0)", x.strips(0), 2);
    }
}
