import java.io.IOException;
import java.nio.file.Files;
import java.nio.file.Path;
import java.util.TreeSet;
import java.util.regex.Matcher;
import java.util.regex.Pattern;

/** What of LANGUAGE.md can be seen in the text of the class; .ci/run starts it at the project's root. */
public final class SourceTest {
    /** A rule's number, and what is not to be found in the source without its comments and texts. */
    private static final String[][] FORBIDDEN = {
        {"1", "\\b(package|protected)\\b"},
        {"2", "::|^(?!.*\\b(case|default)\\b).*->"},
        {"3", "\\b(Object|Map|Set|Optional|Double|Float|var)\\b|\\[\\]\\[\\]\\[\\]|NaN|Infinity"},
        {"4", "import (?!java\\.util\\.(ArrayList|List|Arrays|Iterator|NoSuchElementException);)"},
        {"4", "\\w+Exact\\(|Math\\.(floor|ceil|rint|round|sqrt|cbrt|pow|exp|log|signum|hypot|random|sin|cos|tan)\\("},
        {"4", "Arrays\\.(?!copyOf|copyOfRange|fill)\\w|System\\.(?!arraycopy)\\w|String\\.\\w"},
        {"5", "static \\{|\\bstatic (?!final\\b)(?!class\\b)[\\w\\[\\]]+ \\w+ ?[=;]|static final (double|float)\\b"},
        {"6", "\\b(finally|synchronized|assert|throws)\\b|\\btry \\(|throw (?!new )|\\.(hashCode|getClass|getMessage)\\("},
        {"6", "catch \\(.*\\b(ArrayIndex\\w+|NullPointer\\w+|ClassCast\\w+|NegativeArray\\w+|ArrayStore\\w+|Exception|Throwable|\\w*Error)\\b"},
        {"9", "while \\(true\\)|for \\(;;"},
        {"13", "\\b(Random|Thread|nanoTime|currentTimeMillis|File|Path|Socket)\\b"}};

    private static final Due due = new Due("source");

    public static void main(String[] args) throws IOException {
        String source = Files.readString(Path.of("src/main/java/RollPlayer.java"));
        String code = source.replaceAll("\"(\\\\.|[^\"\\\\\n])*\"", "\"\"").replaceAll("(?s)/\\*.*?\\*/", "")
            .replaceAll("//[^\n]*", "");
        for (String[] one : FORBIDDEN) {
            due.part("rule " + one[0]);
            Matcher m = Pattern.compile(one[1], Pattern.MULTILINE).matcher(code);
            boolean found = m.find();
            due.is(found ? m.group() : "nothing", found ? 1 : 0, 0);
        }
        classes(code);
        parameters(code);
        methodLengths(code);
        names(code);
        due.end();
    }

    private static void classes(String code) {
        due.part("rule 11: some twelve classes");
        int classes = 0;
        for (Matcher m = Pattern.compile("\\b(class|interface|enum|record) \\w+").matcher(code); m.find(); ) classes++;
        due.is("at most twelve classes", classes <= 12 ? 1 : 0, 1);
    }

    private static void parameters(String code) {
        due.part("rule 11: at most seven parameters");
        for (Matcher m = Pattern.compile("\\(([^()]*)\\) \\{").matcher(code); m.find(); ) {
            due.is(m.group(1), m.group(1).split(",").length <= 7 ? 1 : 0, 1);
        }
    }

    private static void methodLengths(String code) {
        due.part("rule 11: methods stay short (some sixty lines)");
        for (Matcher m = Pattern.compile("(?ms)^( {4}| {8})\\S[^\\n;=]*\\([^()]*\\) \\{\\n.*?^\\1\\}").matcher(code); m.find(); ) {
            String method = m.group();
            due.is(method.split("\\n")[0].trim(), method.split("\\n").length <= 60 ? 1 : 0, 1);
        }
    }

    private static void names(String code) {
        due.part("rule 1: no private method bears the name of a public one");
        TreeSet<String> shown = new TreeSet<>();
        for (Matcher m = Pattern.compile("public \\w+ (\\w+)\\(").matcher(code); m.find(); ) shown.add(m.group(1));
        due.is("methods of the face", shown.size(), 52);
        for (Matcher m = Pattern.compile("private (?:static |final )*[\\w\\[\\]]+ (\\w+)\\(").matcher(code); m.find(); ) {
            due.is(m.group(1), shown.contains(m.group(1)) ? 1 : 0, 0);
        }
    }
}
