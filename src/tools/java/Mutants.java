import java.io.IOException;
import java.nio.file.Files;
import java.nio.file.Path;
import java.util.ArrayList;
import java.util.Comparator;
import java.util.LinkedHashSet;
import java.util.List;
import java.util.Map;
import java.util.Set;
import java.util.concurrent.Executors;
import java.util.concurrent.Future;
import java.util.concurrent.TimeUnit;
import java.util.regex.Matcher;
import java.util.regex.Pattern;

/**
 * Breaks SmokeWord.java in one place at a time (a number by 1, a comparison, a join, a statement left out) and tells which
 * breaks no test sees. Run at the project's root: java src/tools/java/Mutants.java [firstLine lastLine]; some ten minutes.
 */
public final class Mutants {
    private static final List<String> TESTS = List.of("BoundsOfTextsTest", "BoundsOfHoursTest", "BoundsOfAskingTest", "RefusedTest", "PromisesTest");
    private static final Map<String, List<String>> OTHERS = Map.ofEntries(
        Map.entry("<", List.of("<=", ">")), Map.entry("<=", List.of("<")), Map.entry(">", List.of(">=", "<")), Map.entry(">=", List.of(">")),
        Map.entry("==", List.of("!=")), Map.entry("!=", List.of("==")), Map.entry("&&", List.of("||")), Map.entry("||", List.of("&&")),
        Map.entry("+", List.of("-")), Map.entry("-", List.of("+")), Map.entry("*", List.of("+")), Map.entry("/", List.of("*")),
        Map.entry("%", List.of("/")), Map.entry("&", List.of("|")), Map.entry("|", List.of("&")));
    private static final Pattern NUMBER = Pattern.compile("(?<![\\w.])\\d+(?![\\w.])");
    private static final Pattern JOIN = Pattern.compile("(?<= )(<=|>=|<|>|==|!=|&&|\\|\\||[-+*/%&|])(?= )");
    private static final Pattern STATEMENT = Pattern.compile("\\s+(?!private|final|int|long|boolean|return|static|break|continue|this)[a-z].*[;]");
    private static final Pattern NAMES = Pattern.compile(".*static final int (OP_|NUMBER|UP_TO|FROM|UNKNOWN|VALLEY|ROAD|BESIDE|GO|IF|OR|AND|NOT|WORDS|END).*");

    private record Mutant(int line, String text) { }

    private static Set<String> broken(String line) {
        Set<String> all = new LinkedHashSet<>();
        String code = line.replaceFirst("//.*", "");
        if (code.isBlank() || code.trim().startsWith("*") || code.trim().startsWith("/*") || NAMES.matcher(code).matches()) return all;
        Matcher number = NUMBER.matcher(code);
        while (number.find())
            for (int d = -1; d <= 1; d += 2)
                all.add(code.substring(0, number.start()) + "(" + (Long.parseLong(number.group()) + d) + ")" + code.substring(number.end()));
        Matcher join = JOIN.matcher(code);
        while (join.find())
            for (String other : OTHERS.get(join.group())) all.add(code.substring(0, join.start()) + other + code.substring(join.end()));
        if (STATEMENT.matcher(code).matches()) all.add(";");
        all.add(code.replace("return true;", "return false;"));
        all.add(code.replace("return false;", "return true;"));
        all.add(code.replaceFirst("if \\((.*)\\) \\{", "if (!($1)) {"));
        all.add(code.replace("Math.max", "Math.min"));
        all.add(code.replace("Math.min", "Math.max"));
        all.add(code.replace("++;", "--;"));
        all.remove(code);
        return all;
    }

    private static int run(Path out, String... command) throws IOException, InterruptedException {
        Process p = new ProcessBuilder(command).redirectErrorStream(true).redirectOutput(out.resolve("log").toFile()).start();
        if (p.waitFor(60, TimeUnit.SECONDS)) return p.exitValue();
        p.destroyForcibly();
        return 99;
    }

    private static boolean survives(List<String> lines, Mutant m, Path tests) throws IOException, InterruptedException {
        Path out = Files.createTempDirectory("mutant");
        List<String> text = new ArrayList<>(lines);
        text.set(m.line, m.text);
        Files.write(out.resolve("SmokeWord.java"), text);
        boolean seen = run(out, "javac", "-d", out.toString(), out.resolve("SmokeWord.java").toString()) != 0;
        for (String test : TESTS)
            seen = seen || run(out, "java", "-XX:+UseSerialGC", "-XX:TieredStopAtLevel=1", "-cp", out + ":" + tests, test) != 0;
        try (var files = Files.walk(out)) {
            for (Path file : files.sorted(Comparator.reverseOrder()).toList()) Files.delete(file);
        }
        return !seen;
    }

    public static void main(String[] args) throws Exception {
        Path source = Path.of("src/main/java/SmokeWord.java");
        Path tests = Files.createTempDirectory("tests");
        List<String> command = new ArrayList<>(List.of("javac", "-d", tests.toString(), source.toString()));
        try (var files = Files.list(Path.of("src/test/java"))) { files.forEach(f -> command.add(f.toString())); }
        if (run(tests, command.toArray(new String[0])) != 0) throw new IllegalStateException("the tests do not compile");
        try (var files = Files.list(tests)) {
            for (Path file : files.filter(f -> f.getFileName().toString().startsWith("SmokeWord")).toList()) Files.delete(file);
        }
        List<String> lines = Files.readAllLines(source);
        int first = args.length > 1 ? Integer.parseInt(args[0]) : 1, last = args.length > 1 ? Integer.parseInt(args[1]) : lines.size();
        List<Mutant> all = new ArrayList<>();
        for (int i = first - 1; i < last; i++) for (String text : broken(lines.get(i))) all.add(new Mutant(i, text));
        var pool = Executors.newFixedThreadPool(Runtime.getRuntime().availableProcessors());
        List<Future<Boolean>> found = new ArrayList<>();
        for (Mutant m : all) found.add(pool.submit(() -> survives(lines, m, tests)));
        int unseen = 0;
        for (int i = 0; i < all.size(); i++) {
            if (!found.get(i).get()) continue;
            unseen++;
            System.out.println((all.get(i).line + 1) + ": " + lines.get(all.get(i).line).trim() + "\n    " + all.get(i).text.trim());
        }
        pool.shutdown();
        System.out.println(unseen + " of " + all.size() + " breaks are not seen");
    }
}
