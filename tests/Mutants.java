import java.io.IOException;
import java.nio.file.Files;
import java.nio.file.Path;
import java.util.ArrayList;
import java.util.LinkedHashMap;
import java.util.List;
import java.util.Map;
import java.util.concurrent.ExecutorService;
import java.util.concurrent.Executors;
import java.util.concurrent.Future;
import java.util.concurrent.TimeUnit;
import java.util.regex.Matcher;
import java.util.regex.Pattern;

/**
 * No test, and not run by .ci/run: breaks the class in one place after another and tells which breaks no test sees.
 * "java tests/Mutants.java [tests]" in the project's directory; without names, every test.
 */
public final class Mutants {
    private static final Path SOURCE = Path.of("src/main/java/TailRecorder.java");
    private static final Path WORK = Path.of("build/mutants");
    private static final long SECONDS = 60;
    private static final Map<String, String> SWAPS = new LinkedHashMap<>();

    private record Mutant(int line, int from, int to, String by) { }

    private static void swap(String sign, String... by) {
        for (String b : by) SWAPS.merge(sign, b, (x, y) -> x + "\n" + y);
    }

    private static void swaps() {
        swap(" < ", " <= ", " >= ");
        swap(" <= ", " < ", " > ");
        swap(" > ", " >= ", " <= ");
        swap(" >= ", " > ", " < ");
        swap(" == ", " != ");
        swap(" != ", " == ");
        swap(" && ", " || ");
        swap(" || ", " && ");
        swap(" + ", " - ");
        swap(" - ", " + ");
        swap(" * ", " / ", " + ");
        swap(" / ", " * ");
        swap(" % ", " / ");
        swap(" >> ", " << ");
        swap(" << ", " >> ");
        swap("Math.min", "Math.max");
        swap("Math.max", "Math.min");
        swap("return NONE", "return CANT");
        swap("return CANT", "return NONE");
        swap("return true", "return false");
        swap("return false", "return true");
    }

    public static void main(String[] args) throws Exception {
        swaps();
        List<String> lines = Files.readAllLines(SOURCE);
        List<Mutant> mutants = new ArrayList<>();
        for (int k = 0; k < lines.size(); k++) {
            String code = lines.get(k).strip();
            if (!code.startsWith("/") && !code.startsWith("*") && !code.startsWith("import")) ofLine(k, lines.get(k), mutants);
        }
        List<String> tests = args.length > 0 ? List.of(args) : allTests();
        Path compiled = compileTests();
        ExecutorService workers = Executors.newFixedThreadPool(Runtime.getRuntime().availableProcessors());
        List<Future<String>> fates = new ArrayList<>();
        for (Mutant m : mutants) fates.add(workers.submit(() -> fate(lines, m, tests, compiled)));
        int lived = 0;
        for (int k = 0; k < fates.size(); k++) {
            String fate = fates.get(k).get();
            if (!fate.isEmpty()) {
                lived++;
                System.out.println(fate);
            }
        }
        workers.shutdown();
        System.out.println(mutants.size() + " mutants, " + lived + " of them seen by no test");
    }

    private static void ofLine(int k, String line, List<Mutant> mutants) {
        for (Map.Entry<String, String> e : SWAPS.entrySet()) {
            for (int at = line.indexOf(e.getKey()); at >= 0; at = line.indexOf(e.getKey(), at + 1)) {
                for (String by : e.getValue().split("\n")) mutants.add(new Mutant(k, at, at + e.getKey().length(), by));
            }
        }
        Matcher number = Pattern.compile("(?<![\\w.])(\\d+)(L?)(?![\\w.])").matcher(line);
        while (number.find()) {
            if (number.group(1).length() > 18) continue;
            long n = Long.parseLong(number.group(1));
            mutants.add(new Mutant(k, number.start(), number.end(), n + 1 + number.group(2)));
            mutants.add(new Mutant(k, number.start(), number.end(), n - 1 + number.group(2)));
        }
        Matcher bits = Pattern.compile("0b[01]+").matcher(line);
        while (bits.find()) {
            for (int at = bits.start() + 2; at < bits.end(); at++) mutants.add(new Mutant(k, at, at + 1, line.charAt(at) == '0' ? "1" : "0"));
        }
        boolean declares = Pattern.compile("^\\s*(private|public|final|int|long|boolean|return)\\b").matcher(line).find();
        if (!declares && line.matches("^\\s+[\\w.\\[\\]]+(\\(.*\\)| [-+|]?=[^=].*|\\+\\+|--);$")) mutants.add(new Mutant(k, 0, line.length(), ""));
        if (line.matches("^\\s+if \\(.*\\) \\{$")) {
            mutants.add(new Mutant(k, 0, line.length(), line.replaceFirst("if \\((.*)\\) \\{$", "if (!($1)) {")));
        }
    }

    private static List<String> allTests() throws IOException {
        List<String> names = new ArrayList<>();
        try (var files = Files.list(Path.of("tests"))) {
            files.map(f -> f.getFileName().toString()).filter(f -> f.endsWith("Test.java")).sorted().forEach(f -> names.add(f.replace(".java", "")));
        }
        // the ones that take longest come last
        for (String slow : List.of("NothingHappensTest", "ModelTest")) if (names.remove(slow)) names.add(slow);
        return names;
    }

    private static Path compileTests() throws Exception {
        Path out = WORK.resolve("tests");
        Files.createDirectories(out);
        List<String> command = new ArrayList<>(List.of("javac", "-d", out.toString(), "-sourcepath", "tests", SOURCE.toString()));
        for (String t : allTests()) command.add("tests/" + t + ".java");
        if (!ends(command)) throw new IllegalStateException("the tests do not compile");
        return out;
    }

    /** Empty, if it does not compile or a test fails (or does not end). */
    private static String fate(List<String> lines, Mutant m, List<String> tests, Path compiled) throws Exception {
        String line = lines.get(m.line);
        List<String> changed = new ArrayList<>(lines);
        changed.set(m.line, line.substring(0, m.from) + m.by + line.substring(m.to));
        Path dir = Files.createTempDirectory(WORK, "m");
        Files.write(dir.resolve("TailRecorder.java"), changed);
        if (!ends(List.of("javac", "-d", dir.toString(), dir.resolve("TailRecorder.java").toString()))) return "";
        for (String t : tests) {
            if (!ends(List.of("java", "-Xmx600m", "-cp", dir + ":" + compiled, t))) return "";
        }
        return (m.line + 1) + ": " + line.strip() + "   [" + line.substring(m.from, m.to).strip() + " -> " + m.by.strip() + "]";
    }

    private static boolean ends(List<String> command) throws IOException, InterruptedException {
        Process p = new ProcessBuilder(command).redirectErrorStream(true).redirectOutput(ProcessBuilder.Redirect.DISCARD).start();
        if (!p.waitFor(SECONDS, TimeUnit.SECONDS)) {
            p.destroyForcibly();
            return false;
        }
        return p.exitValue() == 0;
    }
}
