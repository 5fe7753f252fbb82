import java.nio.file.Files;
import java.nio.file.Path;
import java.util.List;
import java.util.regex.Matcher;
import java.util.regex.Pattern;

/** Those rules of LANGUAGE.md that the text of the class shows; it takes the file's path. */
public final class LanguageTest {
    private static final String[] RULED_OUT = {
        "\\bpackage\\b", "\\bimport\\s+(?!java\\.util\\.(ArrayList|List|Arrays|Iterator);)", "\\bthrows?\\b",
        "\\btry\\b", "\\bcatch\\b", "\\bfinally\\b", "\\bsynchronized\\b", "\\bassert\\b", "\\bstatic\\s*\\{",
        "::", "\\bhashCode\\b", "\\bboolean equals\\b", "\\bString toString\\b", "\\bprotected\\b", "Exact\\(",
        "\\bSystem\\b(?!\\.arraycopy\\()", "\\bThread\\b", "\\bRandom\\b", "\\brandom\\(",
        "\\bwhile\\s*\\(\\s*true\\b", "\\bfor\\s*\\(\\s*;\\s*;"};
    /** An arrow that does not stand behind a label of a switch is that of a lambda. */
    private static final String LAMBDA = "(?m)^(?!\\s*(case|default)\\b).*->";
    /** The rule says: some sixty. */
    private static final int MOST_LINES = 65;

    public static void main(String[] args) throws java.io.IOException {
        Check check = new Check();
        check.due("the path of the class is told", args.length, 1);
        if (args.length == 1) {
            String code = Files.readString(Path.of(args[0])).replaceAll("(?s)/\\*.*?\\*/", "")
                .replaceAll("//[^\n]*", "");
            ruledOut(check, code);
            check.due("lambdas", Pattern.compile(LAMBDA).matcher(code).find(), false);
            lengths(check, Files.readAllLines(Path.of(args[0])));
        }
        check.finish();
    }

    private static void ruledOut(Check check, String code) {
        for (String words : RULED_OUT) {
            Matcher found = Pattern.compile(words).matcher(code);
            check.due("what stands in the class for " + words, found.find(), false);
        }
    }

    /** A method's end stands at the depth of its first line. */
    private static void lengths(Check check, List<String> lines) {
        int first = -1;
        String end = "";
        for (int i = 0; i < lines.size(); i++) {
            String line = lines.get(i);
            if (first < 0 && line.matches(" +(public|private) .*\\) \\{")) {
                first = i;
                end = line.substring(0, line.length() - line.stripLeading().length()) + "}";
            } else if (first >= 0 && line.equals(end)) {
                check.due("lines of " + lines.get(first).strip(), i - first + 1 <= MOST_LINES, true);
                first = -1;
            }
        }
        check.due("every method has an end", first, -1);
    }
}
