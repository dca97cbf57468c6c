import java.io.IOException;
import java.nio.file.Files;
import java.nio.file.Path;
import java.util.TreeSet;
import java.util.regex.Matcher;
import java.util.regex.Pattern;

/** What of LANGUAGE.md can be seen in the text of the class; .ci/run starts it at the project's root. */
public final class SourceTest {
    /** A rule's number, and what is not to be found in the source without its comments. */
    private static final String[][] FORBIDDEN = {
        {"1", "\\b(import|package|protected)\\b"}, {"2", "->|::"}, {"3", "\\b(Object|Map|Set|Optional|Double|Float|float)\\b"},
        {"3", "NaN|Infinity"}, {"4", "Exact\\b|Math\\.(?!max|min|abs|floorDiv|floorMod)\\w"},
        {"4", "Arrays\\.|String\\.|System\\.(?!arraycopy)"}, {"5", "static \\{|static (int|long|double|boolean)(\\[\\])? \\w+ ?[=;]"},
        {"5", "static final double"}, {"6", "\\b(try|catch|finally|throw|throws|synchronized|assert)\\b"},
        {"6", "\\.(equals|hashCode|toString|getClass)\\("}, {"9", "while \\(true\\)|for \\(;;"},
        {"13", "\\b(Random|Thread|nanoTime|currentTimeMillis)\\b"}};

    public static void main(String[] args) throws IOException {
        String source = Files.readString(Path.of("src/main/java/RollPlayer.java"));
        String code = source.replaceAll("(?s)/\\*.*?\\*/", "").replaceAll("//[^\n]*", "");
        Due due = new Due("source");
        for (String[] one : FORBIDDEN) {
            due.part("rule " + one[0]);
            Matcher m = Pattern.compile(one[1]).matcher(code);
            due.is(m.find() ? m.group() : "nothing", m.reset().find() ? 1 : 0, 0);
        }
        due.part("rule 11");
        int classes = 0;
        for (Matcher m = Pattern.compile("\\b(class|interface|enum|record) \\w+").matcher(code); m.find(); ) classes++;
        due.is("at most twelve classes", classes <= 12 ? 1 : 0, 1);
        for (Matcher m = Pattern.compile("\\(([^()]*)\\) \\{").matcher(code); m.find(); ) {
            due.is("at most seven parameters: " + m.group(1), m.group(1).split(",").length <= 7 ? 1 : 0, 1);
        }
        due.part("rule 1");
        TreeSet<String> shown = new TreeSet<>();
        for (Matcher m = Pattern.compile("public \\w+ (\\w+)\\(").matcher(code); m.find(); ) shown.add(m.group(1));
        for (Matcher m = Pattern.compile("\\n +(?:(?:private|static|abstract|final) )*[\\w\\[\\]]+ (\\w+)\\([^()]*\\)(?: \\{|;)").matcher(code); m.find(); ) {
            if (m.group().contains("return ") || m.group().contains("new ")) continue;
            due.is(m.group(1) + " bears the name of a public one", shown.contains(m.group(1)) ? 1 : 0, 0);
        }
        due.end();
    }
}
