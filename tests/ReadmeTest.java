import java.lang.reflect.Method;
import java.nio.file.DirectoryStream;
import java.nio.file.Files;
import java.nio.file.Path;
import java.util.HashMap;
import java.util.Map;
import java.util.Set;
import java.util.TreeSet;
import java.util.regex.Matcher;
import java.util.regex.Pattern;

/** README.md holds: its calls answer what stands behind them, and it names every call of the face and every test. */
public final class ReadmeTest {
    private static final Pattern BLOCK = Pattern.compile("```java\n(.*?)```", Pattern.DOTALL);
    private static final Pattern CALL = Pattern.compile("x\\.(\\w+)\\((.*?)\\); +// (-?\\d+)\\b.*");
    private static final String MAKING = "TailRecorder x = new TailRecorder();";
    private static final Map<String, Method> FACE = new HashMap<>();
    private static final Set<String> CALLED = new TreeSet<>();

    public static void main(String[] args) throws Exception {
        for (Method m : TailRecorder.class.getDeclaredMethods()) {
            if (java.lang.reflect.Modifier.isPublic(m.getModifiers())) FACE.put(m.getName(), m);
        }
        String page = Files.readString(Path.of("README.md"));
        Matcher blocks = BLOCK.matcher(page);
        while (blocks.find()) run(blocks.group(1).split("\n"));
        alike("calls of the face that README.md shows", CALLED, FACE.keySet());
        alike("tests that the table of README.md names", named(page), present());
        Due.finish();
    }

    private static void run(String[] lines) throws Exception {
        TailRecorder x = new TailRecorder();
        Due.due("begins with a new object: " + lines[0], lines[0].equals(MAKING) ? 1 : 0, 1);
        for (int k = 1; k < lines.length; k++) {
            Matcher call = CALL.matcher(lines[k]);
            Method method = call.matches() ? FACE.get(call.group(1)) : null;
            Due.due("a call of the face, with its answer: " + lines[k], method == null ? 0 : 1, 1);
            if (method == null) continue;
            CALLED.add(method.getName());
            Due.due(lines[k], ((Number) method.invoke(x, values(method, call.group(2)))).longValue(), Long.parseLong(call.group(3)));
        }
    }

    private static Object[] values(Method method, String words) {
        String[] each = words.isEmpty() ? new String[0] : words.split(", ");
        Object[] values = new Object[each.length];
        for (int k = 0; k < each.length; k++) {
            Class<?> type = method.getParameterTypes()[k];
            if (type == boolean.class) values[k] = each[k].equals("true");
            else if (type == int.class) values[k] = (int) number(each[k]);
            else values[k] = number(each[k]);
        }
        return values;
    }

    private static long number(String word) {
        return word.equals("TailRecorder.NONE") ? TailRecorder.NONE : Long.decode(word);
    }

    private static Set<String> named(String page) {
        Set<String> names = new TreeSet<>();
        Matcher rows = Pattern.compile("^\\| (\\w+Test(?:, \\w+Test)*) \\|", Pattern.MULTILINE).matcher(page);
        while (rows.find()) names.addAll(Set.of(rows.group(1).split(", ")));
        return names;
    }

    private static Set<String> present() throws Exception {
        Set<String> names = new TreeSet<>();
        try (DirectoryStream<Path> files = Files.newDirectoryStream(Path.of("tests"), "*Test.java")) {
            for (Path file : files) names.add(file.getFileName().toString().replace(".java", ""));
        }
        return names;
    }

    private static void alike(String what, Set<String> got, Set<String> due) {
        if (!got.equals(due)) Due.due(what + ": " + got + ", not " + new TreeSet<>(due), 0, 1);
    }
}
