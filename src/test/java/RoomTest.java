import java.lang.management.ManagementFactory;

/**
 * What a run makes is counted: some 600,000 objects and arrays, 7.3 million fields and elements. An element takes a
 * byte or more and an object sixteen, so a run that makes fewer bytes than MOST_BYTES is within both.
 */
public final class RoomTest {
    private static final long MOST_BYTES = 7_300_000L;

    private static final com.sun.management.ThreadMXBean THREADS =
        (com.sun.management.ThreadMXBean) ManagementFactory.getThreadMXBean();

    private static final Due due = new Due("room");

    public static void main(String[] args) {
        if (!THREADS.isThreadAllocatedMemorySupported()) {
            System.out.println("this machine does not tell what is made: nothing is tried");
            return;
        }
        THREADS.setThreadAllocatedMemoryEnabled(true);
        due.part("all STRIPS, each grown to its greatest, and all ROLLS");
        small(RoomTest::strips);
        due.part("all TICKS, with as much kept as can be");
        small(RoomTest::ticks);
        due.part("frequencies of a COUPLER of SIZE 40");
        small(RoomTest::frequencies);
        due.part("copies made and lost again and again");
        small(RoomTest::mending);
        due.end();
    }

    private static long made() {
        return THREADS.getThreadAllocatedBytes(Thread.currentThread().getId());
    }

    /** A run is done once ahead of the one that is counted, so that no class is loaded in that one. */
    private static void small(Runnable run) {
        run.run();
        long before = made();
        run.run();
        long bytes = made() - before;
        due.is("a run that makes " + bytes + " bytes is small enough", bytes < MOST_BYTES ? 1 : 0, 1);
    }

    /** 400 STRIPS of no ELEMENTS; then a long one comes to eight of them at a time, and an empty one after it. */
    private static void strips() {
        Player x = new Player();
        for (int r = 0; r < 20; r++) x.roll();
        for (int s = 0; s < 8; s++) x.strip(0, 3, s, 0, 256);
        for (int s = 0; s < 8; s++) x.strip(1, 3, s, 256, 256);
        for (int s = 0; s < 8; s++) x.strip(2, 3, s, 0, 256);
        for (int i = 0; i < 47; i++) x.repeat(0, 0, 8);
        due.is("strips(0)", x.strips(0), 384);
        for (int at = 0; at < 384; at += 8) {
            due.is("move of long ones", x.move(1, 0, 8, 0, at), 8);
            due.is("move of empty ones", x.move(2, 0, 8, 0, at), 8);
        }
        due.is("count(6)", x.count(6), 2048);
        while (x.left() > 0) x.digest(0);
    }

    private static void ticks() {
        Player x = new Player();
        x.roll();
        for (int s = 0; s < 80; s++) x.strip(0, 0, 0, 100, 256);
        x.instrument(3);
        x.chest(3, 1);
        x.place(0, 0, 0);
        for (int t = 0; t < 8; t++) x.wire(t, 0, 0);
        for (int k = 0; k < 100; k += 2) x.punch(0, 0, k, 255);
        for (int s = 1; s < 80; s++) x.move(0, 0, 1, 0, s);
        x.play(0);
        for (int i = 0; i < 40; i++) {
            due.is("tick(500)", x.tick(500), 500);
            if (i % 4 == 3) due.is("back(500)", x.back(500) >= 0 ? 1 : 0, 1);
        }
        due.is("tick(500)", x.tick(500), 0);
        due.is("at(8)", x.at(8), 20000);
        while (x.left() > 0) x.back(0);
    }

    private static void frequencies() {
        Player x = new Player();
        for (int i = 0; i < 39; i++) x.instrument(6);
        x.instrument(2);
        for (int i = 0; i < 39; i++) due.is("couple", x.couple(i, i + 1), 1);
        while (x.left() > 1) x.higher(0, 0);
        due.is("higher(0, 0)", x.higher(0, 0), 2);
    }

    private static void mending() {
        Player x = new Player();
        x.roll();
        x.strip(0, 3, 0, 256, 1);
        x.strip(0, 3, 0, 0, 1);
        while (x.left() > 2) {
            x.lose(0, 1);
            due.is("mend(0, 1, 0)", x.mend(0, 1, 0), 0);
        }
    }
}
