import java.io.IOException;
import java.nio.file.Files;
import java.nio.file.Path;
import java.util.regex.Matcher;
import java.util.regex.Pattern;

/** The words and shapes that LANGUAGE.md rules out do not stand in the program. */
public final class LanguageTest {
    private static final String[] RULED_OUT = {
        "\\b(package|import)\\s", "\\b(throw|throws|try|catch|finally|synchronized|assert|volatile|native)\\b",
        "->", "::", "\\bSystem\\.(?!arraycopy)", "\\b\\w+Exact\\b", "\\bThread\\b", "\\bRandom\\b", "\\bObject\\b",
        "\\bnew\\s+\\w+\\s*\\([^)]*\\)\\s*\\{", "\\bstatic\\s*\\{", "\\b(String|Integer)\\s*\\[", "\\bdouble\\b", "\\bfloat\\b",
        "\\bwhile\\s*\\(\\s*true", "\\bfor\\s*\\(\\s*;", "\\b(hashCode|equals|toString)\\b", "@"};

    public static void main(String[] args) throws IOException {
        Due due = new Due();
        String source = Files.readString(Path.of("src/main/java/ReaderRows.java"));
        String code = source.replaceAll("(?s)/\\*.*?\\*/", "").replaceAll("//[^\n]*", "");
        for (String shape : RULED_OUT) {
            Matcher found = Pattern.compile(shape).matcher(code);
            due.holds("no " + shape, !found.find());
        }
        Matcher statics = Pattern.compile("static (?!final|boolean \\w+\\(|int \\w+\\()").matcher(code);
        due.holds("static fields are final", !statics.find());
        int longest = longestMethod(code);
        due.holds("methods of sixty lines at most, not " + longest, longest > 1 && longest <= 60);
        lookAtWhatIsMade(due, code);
        due.holds("characters 0 to 127 alone", source.chars().allMatch(c -> c < 128));
        due.end("LanguageTest");
    }

    // javac lets a final field be set in a constructor alone, so what is made for one is made once an object.
    private static void lookAtWhatIsMade(Due due, String code) {
        Matcher made = Pattern.compile("(?m)^.*\\bnew\\b.*$").matcher(code);
        int count = 0;
        while (made.find()) {
            Matcher set = Pattern.compile("\\s*(\\w+) = new [\\w.]+[\\[(].*;").matcher(made.group());
            due.holds("made for a final field: " + made.group().strip(),
                set.matches() && Pattern.compile("private final \\S+ " + set.group(1) + ";").matcher(code).find());
            count++;
        }
        due.holds("something is made", count > 0);
    }

    private static int longestMethod(String code) {
        Matcher methods = Pattern.compile("(?ms)^( {4}| {8})\\w[^\\n;=]*\\) \\{$.*?^\\1\\}$").matcher(code);
        int longest = 0;
        while (methods.find()) {
            longest = Math.max(longest, (int) methods.group().lines().count());
        }
        return longest;
    }
}
