import java.lang.reflect.InvocationTargetException;
import java.lang.reflect.Method;
import java.util.ArrayList;
import java.util.HashMap;
import java.util.List;
import java.util.Map;
import java.util.Random;

/** Random runs of 512 calls at most, the same ones on a RollPlayer and on a Model; each answer is compared. */
public final class ModelTest {
    /** Each call with the sorts of its numbers; see number(). */
    private static final String[] EDITING = {
        "roll", "strip r K N n t", "strip r K N n t", "strip r K N n t", "strip r h N n t", "punch r s k v",
        "punch r s k v", "punch r s k v", "seal r s", "lose r s", "tear r s i", "damage r s i m", "damage r s i m",
        "byteOf r s i", "head r s w", "sum r s", "read r s", "read r s", "whole r", "finding r k", "told r s w",
        "cut r k", "join r r", "repeat r s k", "move r s k r s", "move r s k r s", "copy r s k k r s k",
        "copy r s k k r s k", "copy r s k k r s k", "transpose r s x", "transpose r s x", "fallen k w", "mend r s r",
        "mend r s r", "equal r r", "digest r", "count w", "strips r"};
    private static final String[] MAKING = {
        "instrument J", "instrument J", "instrument 6", "couple I I", "couple I I", "couple I I", "chest C p",
        "place c p I", "place c p I", "place c p I", "place c p I", "wire T c p", "wire T c p", "wire T c p",
        "spoil I S", "tune I P P", "base B", "frequency I", "mute I", "higher I I", "members I", "trace b", "count w"};
    private static final String[] PLAYING = {
        "play r", "play r", "tick x", "tick x", "tick x", "tick x", "tick x", "halt", "back x", "back x", "open T",
        "sounding k w", "sounding k w", "loud k", "loud k", "level T", "stop c", "at w", "at w", "times I w",
        "times I w", "event e w", "event e w", "count w", "trace b", "spoil I S", "mute I", "frequency I"};

    private static final List<String> QUESTIONS = questions();

    private static final Map<String, Method> OURS = methods(Player.class);
    private static final Map<String, Method> THEIRS = methods(Model.class);

    private final Random random;
    private final Player player = new Player();
    private final Model model = new Model();
    private final List<String> told = new ArrayList<>();
    private boolean failed = false;

    private ModelTest(long seed) {
        random = new Random(seed);
    }

    private static Map<String, Method> methods(Class<?> of) {
        Map<String, Method> all = new HashMap<>();
        for (Method m : of.getDeclaredMethods()) {
            if (!java.lang.reflect.Modifier.isPrivate(m.getModifiers())) all.put(m.getName(), m);
        }
        return all;
    }

    /** All that can be told of PLAYING, of INSTRUMENTS and of ROLLS, as far as the runs go: "at 0", "event 3 1", .. */
    private static List<String> questions() {
        List<String> all = new ArrayList<>();
        for (int what = 0; what < 9; what++) all.add("at " + what);
        for (int what = 0; what < 8; what++) all.add("count " + what);
        for (int t = 0; t < 8; t++) all.addAll(List.of("open " + t, "level " + t));
        for (int c = 0; c < 16; c++) all.add("stop " + c);
        for (int k = 0; k < 12; k++) {
            for (int what = 0; what < 3; what++) all.add("sounding " + k + " " + what);
            all.addAll(List.of("loud " + k, "fallen " + k + " 0", "fallen " + k + " 1"));
            all.addAll(List.of("times " + k + " 0", "times " + k + " 1", "frequency " + k, "members " + k));
        }
        for (int b = 0; b < 17; b++) all.add("trace " + b);
        for (int k = 0; k < 40; k++) for (int what = 0; what < 4; what++) all.add("event " + k + " " + what);
        for (int r = 0; r < 5; r++) {
            all.addAll(List.of("digest " + r, "whole " + r, "strips " + r, "digest " + r));
            for (int s = 0; s < 8; s++) all.addAll(List.of("read " + r + " " + s, "sum " + r + " " + s));
        }
        return all;
    }

    private int wild() {
        int[] some = {-2, -1, 0, 7, 8, 9, 15, 16, 17, 39, 40, 41, 60, 200, 255, 256, 257, 500, 501, 1000, 1001, 30000,
            30001, 32000, 32001, 65536, Integer.MAX_VALUE, Integer.MIN_VALUE};
        return random.nextInt(4) == 0 ? random.nextInt() : some[random.nextInt(some.length)];
    }

    private int value() {
        switch (random.nextInt(6)) {
            case 0: return random.nextInt();
            case 1: return random.nextInt(256);
            case 2: return 'A' + random.nextInt(18);
            case 3: return 'a' + random.nextInt(18);
            case 4: return random.nextInt(6) << 16 | random.nextInt(40);
            default: return random.nextInt(65536);
        }
    }

    private int number(char sort) {
        if (random.nextInt(40) == 0) return wild();
        switch (sort) {
            case 'r': return random.nextInt(4);
            case 's': return random.nextInt(7);
            case 'K': return random.nextInt(4);
            case 'h': return 0;
            case 'N': return random.nextInt(3);
            case 'n': return random.nextInt(7);
            case 't': return random.nextInt(5);
            case 'k': return random.nextInt(7);
            case 'v': return value();
            case 'i': return random.nextInt(22);
            case 'm': return random.nextBoolean() ? 1 << random.nextInt(8) : random.nextInt();
            case 'w': return random.nextInt(9) == 0 ? random.nextInt(10) - 1 : random.nextInt(4);
            case 'J': return random.nextInt(7);
            case 'I': return random.nextInt(12);
            case 'C': return random.nextInt(3) == 0 ? random.nextInt(8) : 7;
            case 'p': return random.nextInt(5);
            case 'c': return random.nextInt(5) - 1;
            case 'T': return random.nextInt(8);
            case 'S': return random.nextInt(5);
            case 'P': return random.nextInt(3) == 0 ? random.nextInt(1001) : random.nextInt(4);
            case 'B': return 1 + random.nextInt(32000);
            case 'b': return random.nextInt(17);
            case 'x': return random.nextInt(3) == 0 ? random.nextInt(15) - 7 : random.nextInt(4);
            case 'e': return random.nextInt(40);
            default: return sort - '0';
        }
    }

    private static Object answer(Method call, Object of, Object[] args) {
        try {
            return ((Number) call.invoke(of, args)).longValue();
        } catch (InvocationTargetException e) {
            return "threw " + e.getCause();
        } catch (IllegalAccessException e) {
            return "no access " + e;
        }
    }

    /** Nothing is asked beyond the calls that an object is good for. */
    private void ask(String name, int... args) {
        if (failed || player.left() == 0) return;
        Object[] boxed = new Object[args.length];
        StringBuilder text = new StringBuilder(name);
        for (int i = 0; i < args.length; i++) {
            boxed[i] = args[i];
            text.append(i == 0 ? "(" : ", ").append(args[i]);
        }
        text.append(args.length == 0 ? "()" : ")");
        Object got = answer(OURS.get(name), player, boxed);
        Object due = answer(THEIRS.get(name), model, boxed);
        told.add(text + " = " + got);
        boolean statusToo = player.left() > 0 && random.nextInt(3) == 0;
        int status = statusToo ? player.status() : model.status();
        if (got.equals(due) && status == model.status()) return;
        failed = true;
        System.out.println("due is " + due + " with status " + model.status() + ", not " + got + " with " + status + ":");
        for (String line : told.subList(Math.max(0, told.size() - 60), told.size())) System.out.println("  " + line);
    }

    private void some(String[] of) {
        String[] words = of[random.nextInt(of.length)].split(" ");
        int[] args = new int[words.length - 1];
        for (int i = 0; i < args.length; i++) args[i] = number(words[i + 1].charAt(0));
        ask(words[0], args);
    }

    private void askSome(int n) {
        for (int i = 0; i < n; i++) {
            String[] words = QUESTIONS.get(random.nextInt(QUESTIONS.size())).split(" ");
            int[] args = new int[words.length - 1];
            for (int k = 0; k < args.length; k++) args[k] = Integer.parseInt(words[k + 1]);
            ask(words[0], args);
        }
    }

    private void mixed() {
        for (int i = 0; i < 60; i++) some(random.nextBoolean() ? EDITING : MAKING);
        String[][] all = {EDITING, MAKING, PLAYING};
        for (int round = 0; round < 6; round++) {
            String[] often = all[random.nextInt(3)];
            for (int i = 0; i < 30; i++) some(random.nextInt(4) > 0 ? often : all[random.nextInt(3)]);
            if (random.nextBoolean()) ask("halt");
            askSome(25);
        }
        askSome(Player.MOST_CALLS);
    }

    /** Rolls and instruments that have much to do with each other, then played to and fro. */
    private void concert() {
        for (int r = 0; r < 3; r++) ask("roll");
        for (int i = 0; i < 12; i++) ask("instrument", random.nextInt(3) == 0 ? 6 : random.nextInt(7));
        for (int i = 0; i < 20; i++) ask("couple", random.nextInt(12), random.nextInt(12));
        for (int c = 0; c < 4; c++) ask("chest", random.nextInt(3) == 0 ? random.nextInt(7) : 7, random.nextInt(5));
        for (int i = 0; i < 25; i++) ask("place", random.nextInt(4), random.nextInt(4), random.nextInt(12));
        for (int t = 0; t < 8; t++) ask("wire", t, random.nextInt(9) == 0 ? -1 : random.nextInt(4), random.nextInt(4));
        for (int i = 0; i < 6; i++) ask("spoil", random.nextInt(12), random.nextInt(6));
        for (int i = 0; i < 4; i++) ask("tune", random.nextInt(12), random.nextInt(3), random.nextInt(3));
        for (int i = 0; i < 9; i++) {
            int r = random.nextInt(3);
            int kind = random.nextInt(2) == 0 ? 0 : random.nextInt(4);
            int n = random.nextInt(9);
            ask("strip", r, kind, random.nextInt(3), n, random.nextInt(3) == 0 ? 0 : random.nextInt(12));
            for (int k = 0; k < n; k++) ask("punch", r, i % 4, k, value());
        }
        for (int i = 0; i < 2; i++) ask("damage", random.nextInt(3), random.nextInt(4), random.nextInt(12), 1);
        for (int i = 0; i < 60; i++) {
            some(PLAYING);
            askSome(random.nextInt(3));
        }
        askSome(Player.MOST_CALLS);
    }

    /** Long playing: what is kept of it, and all TICKS that are there. */
    private void longPlaying() {
        ask("roll");
        ask("instrument", 0);
        ask("chest", 7, 1);
        ask("place", 0, 0, 0);
        for (int t = 0; t < 8; t++) ask("wire", t, 0, 0);
        for (int s = 0; s < 4; s++) {
            ask("strip", 0, 0, 0, 256, 256);
            for (int k = 0; k < 15; k++) ask("punch", 0, s, random.nextInt(256), random.nextInt(256));
        }
        ask("strip", 0, 3, 0, 200, 256);
        for (int k = 0; k < 10; k++) ask("punch", 0, 4, random.nextInt(200), random.nextInt());
        for (int i = 0; i < 40; i++) {
            ask("play", 0);
            ask("tick", random.nextInt(501));
            ask("tick", random.nextBoolean() ? random.nextInt(501) : 500);
            ask("back", random.nextInt(501));
            if (random.nextBoolean()) ask("back", random.nextInt(3) == 0 ? 500 : random.nextInt(200));
            if (random.nextBoolean()) ask("tick", random.nextInt(20));
            ask("event", 1490 + random.nextInt(13), random.nextInt(4));
            if (random.nextInt(4) == 0) ask("halt");
            askSome(1);
        }
        askSome(Player.MOST_CALLS);
    }

    /** As many INSTRUMENTS, MEMBERS and CHESTS as there may be, and beyond. */
    private void mostInstruments() {
        for (int i = 0; i < 62; i++) ask("instrument", random.nextInt(3) > 0 ? 6 : random.nextInt(7));
        for (int i = 0; i < 18; i++) ask("chest", random.nextInt(8), random.nextInt(30));
        for (int i = 0; i < 200; i++) ask("couple", random.nextInt(60), random.nextInt(60));
        for (int i = 0; i < 60; i++) ask("members", i);
        askSome(Player.MOST_CALLS);
    }

    /** As many ROLLS, STRIPS and ELEMENTS as there may be, and beyond. */
    private void mostStrips() {
        for (int i = 0; i < 5; i++) ask("roll");
        for (int i = 0; i < 40; i++) ask("strip", random.nextInt(3), random.nextInt(4), 0, random.nextInt(257), 1);
        for (int i = 0; i < 70; i++) {
            int r = random.nextInt(3);
            int s = random.nextInt(15);
            switch (random.nextInt(7)) {
                case 0: ask("join", r, random.nextInt(3)); break;
                case 1: ask("repeat", r, s, random.nextInt(9)); break;
                case 2: ask("move", r, s, random.nextInt(9), random.nextInt(3), random.nextInt(20)); break;
                case 3: ask("tear", r, s, random.nextInt(600)); break;
                case 4: ask("lose", r, s); break;
                case 5: ask("mend", r, s, random.nextInt(3)); break;
                default: ask("strip", r, random.nextInt(4), 0, random.nextInt(40) - 5, 1);
            }
            ask("count", 6);
        }
        for (int i = 0; i < 8; i++) ask("join", random.nextInt(5), random.nextInt(5));
        for (int i = 0; i < 50; i++) ask("repeat", random.nextInt(5), random.nextInt(4), random.nextBoolean() ? 8 : random.nextInt(9));
        for (int i = 0; i < 17; i++) {
            if (random.nextBoolean()) ask("roll");
            else ask("cut", random.nextInt(5), random.nextInt(40));
        }
        askSome(Player.MOST_CALLS);
    }

    public static void main(String[] args) {
        int wrong = 0;
        long first = args.length > 0 ? Long.parseLong(args[0]) : 1;
        int runs = args.length > 1 ? Integer.parseInt(args[1]) : 3000;
        for (long seed = first; seed < first + runs && wrong < 3; seed++) {
            ModelTest one = new ModelTest(seed);
            if (seed % 50 == 0) one.longPlaying();
            else if (seed % 10 == 1) one.mostInstruments();
            else if (seed % 10 == 3) one.mostStrips();
            else if (seed % 2 == 0) one.concert();
            else one.mixed();
            if (one.failed) {
                wrong++;
                System.out.println("by seed " + seed);
            }
        }
        System.out.println(runs + " runs beside the model, " + wrong + " of them not alike");
        if (wrong != 0) System.exit(1);
    }
}
