import java.io.IOException;
import java.lang.reflect.Method;
import java.lang.reflect.Modifier;
import java.nio.file.Files;
import java.nio.file.Path;
import java.util.ArrayList;
import java.util.List;
import java.util.regex.Matcher;
import java.util.regex.Pattern;

/** README.md is to say how the class is used: its sample does what it says, and it names every call. */
public final class ReadmeTest {
    private static final Due due = new Due("README.md");

    /** The sample's lines without their comments, each with the answer that it has. */
    private static final List<String> lines = new ArrayList<>();

    public static void main(String[] args) throws IOException {
        String text = Files.readString(Path.of("README.md"));
        sample();
        compare(text);
        names(text);
        due.end();
    }

    private static void line(String written, long got, long want) {
        lines.add(written);
        due.part("the sample");
        due.is(written, got, want);
    }

    private static void sample() {
        RollPlayer x = new RollPlayer();
        lines.add("RollPlayer x = new RollPlayer();");
        int organ = x.chest(7, 1);
        line("int organ = x.chest(7, 1);", organ, 0);
        line("x.place(organ, 0, x.instrument(0));", x.place(organ, 0, x.instrument(0)), 1);
        line("x.wire(0, organ, 0);", x.wire(0, organ, 0), 1);
        int roll = x.roll();
        line("int roll = x.roll();", roll, 0);
        line("x.strip(roll, 0, 1, 4, 4);", x.strip(roll, 0, 1, 4, 4), 0);
        line("x.punch(roll, 0, 1, 1);", x.punch(roll, 0, 1, 1), 1);
        line("x.play(roll);", x.play(roll), 1);
        line("x.tick(2);", x.tick(2), 2);
        line("x.sounding(0, 0);", x.sounding(0, 0), 0);
        line("x.back(1);", x.back(1), 1);
        line("x.sounding(0, 0);", x.sounding(0, 0), RollPlayer.NONE);
        line("x.halt();", x.halt(), 0);
        line("x.damage(roll, 0, 9, 64);", x.damage(roll, 0, 9, 64), 64);
        line("x.read(roll, 0);", x.read(roll, 0), -19);
        line("x.status();", x.status(), 9);
    }

    /** The sample of the text is the one that was tried here. */
    private static void compare(String text) {
        due.part("the sample's lines");
        Matcher block = Pattern.compile("(?s)```java\\n(.*?)```").matcher(text);
        String[] written = block.find() ? block.group(1).split("\\n") : new String[0];
        due.is("how many there are", written.length, lines.size());
        for (int i = 0; i < written.length && i < lines.size(); i++) {
            String code = written[i].replaceAll("//.*", "").trim();
            due.is(code + ", tried as " + lines.get(i), code.equals(lines.get(i)) ? 1 : 0, 1);
        }
    }

    private static void names(String text) {
        due.part("the calls it names");
        for (Method call : RollPlayer.class.getDeclaredMethods()) {
            if (!Modifier.isPublic(call.getModifiers())) continue;
            due.is(call.getName(), text.contains("`" + call.getName() + "`") ? 1 : 0, 1);
        }
        due.part("how its tests are run");
        due.is(".ci/run", text.contains("    .ci/run\n") ? 1 : 0, 1);
    }
}
