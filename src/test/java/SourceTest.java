import java.io.IOException;
import java.nio.file.Files;
import java.nio.file.Path;
import java.util.regex.Matcher;
import java.util.regex.Pattern;

/** The rules of LANGUAGE.md that can be seen in the text of the program. Run from the project's folder. */
public final class SourceTest {
    private static final Due due = new Due("SourceTest");
    private static final String[] WORDS = {"throw", "throws", "try", "catch", "synchronized", "assert", "import",
        "package", "equals", "hashCode", "toString", "System\\.(?!arraycopy)\\w+", "Random", "Thread", "Object", "var",
        "volatile", "native", "transient", "protected", "instanceof", "new String", "Override"};
    private static final String[] SIGNS = {"Exact\\b", "->", "::", "@", "\\+ *\"", "\" *\\+", "[^\\x00-\\x7f]"};
    private static final Pattern CALLED = Pattern.compile("\\b(Math|Integer|Long|Arrays|System|String)\\.(\\w+)");

    public static void main(String[] args) throws IOException {
        String text = Files.readString(Path.of("src/main/java/LongYear.java"));
        String code = withoutComments(text);
        for (String word : WORDS) absent(code, "\\b" + word + "\\b", word);
        for (String sign : SIGNS) absent(code, sign, sign);
        Matcher m = CALLED.matcher(code);
        while (m.find()) {
            due.holds(m.group() + " is in the library that is left", m.group().matches(
                "(Math|Integer|Long)\\.(compare|max|min|abs|bitCount|floorDiv|floorMod|numberOfTrailingZeros|MAX_VALUE|MIN_VALUE)"
                + "|System\\.arraycopy|Arrays\\.(copyOf|copyOfRange|fill)"));
        }
        loopsEnd(code);
        due.holds("some twelve classes", count(code, "\\b(class|enum|record|interface) \\w") <= 12);
        due.is("one public class", count(code, "\\bpublic (final )?class\\b"), 1);
        due.is("static classes inside", count(code, "private static (final )?(abstract )?class"),
            count(code, "\\bclass \\w") - 1);
        shortMethods(code);
        due.end();
    }

    private static String withoutComments(String text) {
        return text.replaceAll("(?s)/\\*.*?\\*/", "").replaceAll("//[^\n]*", "");
    }

    private static void absent(String code, String pattern, String what) {
        due.is("uses of " + what, count(code, pattern), 0);
    }

    private static int count(String code, String pattern) {
        Matcher m = Pattern.compile(pattern).matcher(code);
        int n = 0;
        while (m.find()) n++;
        return n;
    }

    /** Each loop compares its counter with a bound. */
    private static void loopsEnd(String code) {
        due.is("loops without an end", count(code, "for *\\( *;|while *\\( *true|for *\\([^;]*; *;"), 0);
        Matcher m = Pattern.compile("\\bwhile *\\(([^\n]*)").matcher(code);
        while (m.find()) due.holds("a bound in: while (" + m.group(1), m.group(1).matches("\\w+ < \\w+ .*"));
    }

    /** One that calls itself is private and static, and is given how deep it is. */
    private static void selfCallsAreStatic(String head, String lines) {
        Matcher name = Pattern.compile("(\\w+)\\(").matcher(head);
        if (!name.find() || !Pattern.compile("(?<![.\\w])" + name.group(1) + "\\(").matcher(lines).find()) return;
        due.holds(head + " calls itself: private and static", head.startsWith("private static "));
        due.holds(head + " calls itself: it is given its depth", head.contains("int depth"));
    }

    /** A method's lines stand between a head and a brace that are indented alike. */
    private static void shortMethods(String code) {
        Matcher m = Pattern.compile("(?m)^( {4}| {8})(?! )[^;={}]*\\([^;={}]*\\) \\{\n(.*?)^\\1\\}", Pattern.DOTALL)
            .matcher(code);
        int methods = 0;
        while (m.find()) {
            methods++;
            String head = m.group().substring(0, m.group().indexOf('\n')).trim();
            selfCallsAreStatic(head, m.group(2));
            due.holds(head + " is at most sixty lines", m.group(2).split("\n").length <= 60);
            due.holds(head + " has at most seven parameters", head.chars().filter(c -> c == ',').count() < 7);
        }
        due.holds("the methods were found", methods > 100);
    }
}
