import java.io.IOException;
import java.nio.file.Files;
import java.nio.file.Path;
import java.util.List;
import java.util.Set;
import java.util.regex.Matcher;
import java.util.regex.Pattern;

/** What LANGUAGE.md asks of the words of src/main/java/TailRecorder.java (FaceTest: of its members). */
public final class LanguageTest {
    private static final Set<String> LIBRARY = Set.of(
        "Math.max", "Math.min", "Integer.bitCount", "Long.numberOfLeadingZeros", "System.arraycopy", "Arrays.fill");
    private static final Set<String> MADE = Set.of("Ledger", "Pair", "Tape", "History", "Step", "Products", "Unpacking", "int", "long");
    private static final String[] FORBIDDEN = {
        "->", "::", "\\bsynchronized\\b", "\\bassert\\b", "\\bfinally\\b", "\\btry\\b", "\\bcatch\\b", "\\bthrows?\\b", "\\bprotected\\b", "\\bpackage\\b", "\\bvolatile\\b", "\\bnative\\b",
        "\\bhashCode\\b", "\\btoString\\b", "\\bequals\\b", "\\bwhile\\b", "\\bdouble\\b", "\\bfloat\\b", "\\bObject\\b", "\\bThread\\b", "\\bvar\\b", "@", "Exact\\b", "\\?\\s*>"};
    private static final int MOST_LINES = 60;

    public static void main(String[] args) throws IOException {
        String source = Files.readString(Path.of("src/main/java/TailRecorder.java"));
        String code = Pattern.compile("/\\*.*?\\*/|//[^\n]*", Pattern.DOTALL).matcher(source).replaceAll("");
        Due.due("signs above 127", source.chars().filter(c -> c > 127).count(), 0);
        for (String word : FORBIDDEN) found(word, code);
        each("import ([\\w.*]+);", code, Set.of("java.util.Arrays"));
        each("\\b([A-Z]\\w*\\.[a-z]\\w*)\\(", code, LIBRARY);
        each("\\bnew (\\w+)\\b", code, MADE);
        each("\\bstatic (?!final |class )(\\w+) \\w+ ?[=;]", code, Set.of());
        methodsAreShort(List.of(code.split("\n")));
        Due.finish();
    }

    private static void found(String word, String code) {
        Due.due("places of " + word, Pattern.compile(word).matcher(code).results().count(), 0);
    }

    private static void each(String what, String code, Set<String> allowed) {
        Matcher m = Pattern.compile(what).matcher(code);
        while (m.find()) Due.due("allowed, as " + what + ": " + m.group(1), allowed.contains(m.group(1)) ? 1 : 0, 1);
    }

    /** A method begins behind four or eight blanks and ends with a brace behind as many. */
    private static void methodsAreShort(List<String> lines) {
        String blanks = "";
        int start = 0;
        for (int k = 0; k < lines.size(); k++) {
            String line = lines.get(k);
            if (line.matches("( {4}| {8})(?!if|for|while|switch|do)\\w.*\\) \\{")) {
                start = k;
                blanks = line.substring(0, line.length() - line.stripLeading().length());
            }
            if (line.equals(blanks + "}")) Due.due("lines of " + lines.get(start).strip() + ", at most", Math.max(MOST_LINES, k - start), MOST_LINES);
        }
    }
}
