import java.lang.reflect.Constructor;
import java.lang.reflect.Field;
import java.lang.reflect.Method;
import java.lang.reflect.Modifier;
import java.util.TreeSet;

/** Promises 49 to 53, worked out by hand, and the public face. */
public final class ToldTest {
    private static final int BAD = -1, FULL = -2, BUSY = -3, NONE = -4;

    private static final String FACE = "roll: strip:IIIII punch:IIII seal:II lose:II tear:III damage:IIII byteOf:III"
            + " head:IIIJ sum:IIJ read:II whole:I finding:II told:III instrument:I couple:II chest:II place:III wire:III"
            + " spoil:II tune:III base:I frequency:IJ mute:I higher:II play:I tick:I halt: back:I open:I sounding:II"
            + " loud:I level:I stop:I at:I times:II event:II cut:II join:II repeat:III move:IIIII copy:IIIIIII"
            + " transpose:III fallen:II mend:III equal:II digest:IJ count:I strips:I members:I trace:I status:";

    private static final Due due = new Due("told");

    public static void main(String[] args) {
        face();
        counts();
        stripsAndMembers();
        traces();
        statuses();
        statusIsNotChangedByStatus();
        due.end();
    }

    private static void face() {
        due.part("the public face");
        TreeSet<String> want = new TreeSet<>();
        for (String one : FACE.split(" ")) want.add(one);
        TreeSet<String> got = new TreeSet<>();
        for (Method m : RollPlayer.class.getDeclaredMethods()) {
            if (Modifier.isPrivate(m.getModifiers())) continue;
            StringBuilder text = new StringBuilder(m.getName()).append(':');
            for (Class<?> p : m.getParameterTypes()) text.append(p == int.class ? "I" : "?");
            if (m.getReturnType() == long.class) text.append('J');
            got.add(text.toString());
        }
        if (!want.equals(got)) System.out.println("wanted " + want + ", there is " + got);
        due.is("methods as the document has them", want.equals(got) ? 1 : 0, 1);
        TreeSet<String> names = new TreeSet<>();
        for (Field f : RollPlayer.class.getDeclaredFields()) if (!Modifier.isPrivate(f.getModifiers())) names.add(f.getName());
        due.is("constants as the document has them", names.toString().equals("[BAD, BUSY, FULL, NONE]") ? 1 : 0, 1);
        due.is("BAD", RollPlayer.BAD, -1);
        due.is("FULL", RollPlayer.FULL, -2);
        due.is("BUSY", RollPlayer.BUSY, -3);
        due.is("NONE", RollPlayer.NONE, -4);
        Constructor<?>[] made = RollPlayer.class.getDeclaredConstructors();
        due.is("constructors", made.length, 1);
        due.is("it is final", Modifier.isFinal(RollPlayer.class.getModifiers()) ? 1 : 0, 1);
    }

    private static void counts() {
        due.part("promise 49");
        Player x = new Player();
        for (int r = 0; r < 3; r++) x.roll();
        for (int i = 0; i < 4; i++) x.instrument(0);
        for (int c = 0; c < 2; c++) x.chest(7, 3);
        for (int t = 0; t < 8; t++) x.wire(t, 1, 2);
        x.place(1, 2, 3);
        x.strip(1, 0, 0, 5, 2);
        x.strip(2, 0, 0, 4, 0);
        x.punch(1, 0, 0, 7);
        x.punch(2, 0, 3, 0xe0);
        x.transpose(2, 0, 2);
        x.play(1);
        x.tick(1);
        int[] want = {3, 4, 2, 4, 3, 2, 9, 6};
        for (int what = 0; what < 8; what++) due.is("count(" + what + ")", x.count(what), want[what]);
        due.is("count(-1)", x.count(-1), BAD);
        due.is("count(8)", x.count(8), BAD);
        x.halt();
        due.is("count(3)", x.count(3), 7);
        due.is("count(4)", x.count(4), 0);
    }

    private static void stripsAndMembers() {
        due.part("promises 50 and 51");
        Player x = new Player();
        due.is("strips(0)", x.strips(0), BAD);
        x.roll();
        due.is("strips(0)", x.strips(0), 0);
        x.strip(0, 0, 0, 0, 0);
        x.lose(0, 0);
        due.is("strips(0)", x.strips(0), 1);
        due.is("strips(1)", x.strips(1), BAD);
        due.is("strips(-1)", x.strips(-1), BAD);
        for (int kind = 0; kind < 7; kind++) x.instrument(kind);
        for (int i = 0; i < 6; i++) due.is("members(" + i + ")", x.members(i), -15);
        due.is("status()", x.status(), 5);
        due.is("members(6)", x.members(6), 0);
        x.couple(6, 0);
        x.couple(6, 0);
        due.is("members(6)", x.members(6), 2);
        due.is("members(7)", x.members(7), BAD);
        due.is("members(-1)", x.members(-1), BAD);
    }

    private static void traces() {
        due.part("promise 52");
        Player x = new Player();
        due.is("trace(-1)", x.trace(-1), BAD);
        due.is("trace(17)", x.trace(17), BAD);
        due.is("status()", x.status(), BAD);
        due.is("trace(16)", x.trace(16), 0);
        x.chest(7, 7);
        for (int i = 0; i < 7; i++) {
            x.instrument(i);
            x.place(0, i, i);
            x.wire(i, 0, i);
        }
        x.roll();
        x.strip(0, 0, 0, 1, 2);
        x.punch(0, 0, 0, 127);
        x.couple(6, 0);
        x.play(0);
        x.tick(2);
        for (int k = 0; k < 8; k++) x.loud(k);
        x.halt();
        int[] want = {4, 2, 1, 2, 1, 1, 4, 1, 5, 2, 1, 2, 1, 1, 8, 1, 8};
        for (int b = 0; b < 17; b++) due.is("trace(" + b + ")", x.trace(b), want[b]);
        x.play(0);
        x.tick(1);
        due.is("ever", x.trace(14), 16);
        x.back(1);
        due.is("trace(14)", x.trace(14), 16);
        due.is("trace(16)", x.trace(16), 8);
    }

    private static void statuses() {
        due.part("promise 53");
        Player x = new Player();
        due.is("status()", x.status(), 0);
        x.strips(0);
        due.is("BAD", x.status(), BAD);
        x.roll();
        due.is("0", x.status(), 0);
        x.strip(0, 0, 0, -1, 0);
        due.is("SIZE", x.status(), 3);
        x.strip(0, 0, 0, 1, 0);
        x.copy(0, 0, 0, 2, 0, 0, 0);
        due.is("SPAN", x.status(), 4);
        x.damage(0, 0, 0, 1);
        due.is("0", x.status(), 0);
        x.read(0, 0);
        due.is("KIND", x.status(), 5);
        x.tear(0, 0, 3);
        x.read(0, 0);
        due.is("TORN", x.status(), 2);
        x.lose(0, 0);
        x.read(0, 0);
        due.is("LOST", x.status(), 1);
        x.finding(0, 1);
        due.is("NONE is 0", x.status(), 0);
        x.halt();
        due.is("NONE is 0", x.status(), 0);
        x.chest(0, 1);
        x.instrument(3);
        x.place(0, 0, 0);
        due.is("STORE", x.status(), 6);
        x.chest(0, 200);
        due.is("FULL", x.status(), FULL);
        x.play(0);
        x.roll();
        due.is("BUSY", x.status(), BUSY);
        x.at(4);
        due.is("NONE is 0", x.status(), 0);
        x.frequency(0);
        due.is("of a long, too", x.status(), 5);
        x.frequency(1);
        due.is("of a long, too", x.status(), BAD);
        x.trace(0);
        due.is("0", x.status(), 0);
        x.halt();
        x.strip(0, 1, 0, 2, 0);
        x.damage(0, 1, 4, 1);
        x.read(0, 1);
        due.is("LONG", x.status(), 7);
        x.damage(0, 1, 4, 2);
        x.read(0, 1);
        due.is("SHORT", x.status(), 8);
        x.damage(0, 1, 4, 3);
        x.damage(0, 1, 9, 3);
        x.read(0, 1);
        due.is("SUM", x.status(), 9);
    }

    private static void statusIsNotChangedByStatus() {
        due.part("promise 53: but status()");
        Player x = new Player();
        x.count(9);
        for (int i = 0; i < 3; i++) due.is("status()", x.status(), BAD);
        due.is("play(0)", x.play(0), BAD);
        due.is("tick(0)", x.tick(0), NONE);
        for (int i = 0; i < 3; i++) due.is("status()", x.status(), 0);
    }
}
