import java.io.File;
import java.io.PrintWriter;
import java.io.StringWriter;
import java.util.ArrayList;
import java.util.HashMap;
import java.util.List;
import java.util.Map;
import java.util.Set;
import java.util.TreeMap;
import java.util.TreeSet;
import java.util.regex.Matcher;
import java.util.regex.Pattern;
import java.util.spi.ToolProvider;

/** Rules 8 and 11 of LANGUAGE.md: which methods call themselves, and how deep all other calls go, by the class files. */
public final class CallsTest {
    private static final Pattern CLASS = Pattern.compile("^[a-z ]*class ([\\w$]+)");
    private static final Pattern METHOD = Pattern.compile("^  \\S[^=(]*?([\\w$]+)\\([^=]*\\);$");
    private static final Pattern CALL = Pattern.compile("invoke\\w+ +#\\d+.*Method ([^:]+):");
    private static final int DEEPEST = 8;

    private static final Map<String, Set<String>> calls = new TreeMap<>();
    private static final Map<String, List<String>> deepest = new HashMap<>();
    private static int wrong = 0;

    private static String disassembled() throws Exception {
        File home = new File(SmokeWord.class.getProtectionDomain().getCodeSource().getLocation().toURI());
        List<String> args = new ArrayList<>(List.of("-p", "-c"));
        for (File file : home.listFiles()) if (file.getName().matches("SmokeWord(\\$\\w+)?\\.class")) args.add(file.getPath());
        StringWriter text = new StringWriter();
        ToolProvider.findFirst("javap").orElseThrow().run(new PrintWriter(text), new PrintWriter(text), args.toArray(new String[0]));
        return text.toString();
    }

    private static void readCalls(String text) {
        String inClass = "";
        String method = "";
        for (String line : text.split("\\R")) {
            Matcher m = CLASS.matcher(line);
            if (m.find()) {
                inClass = m.group(1);
                continue;
            }
            m = METHOD.matcher(line);
            if (m.find()) {
                method = inClass + "." + (m.group(1).equals(inClass) ? "<init>" : m.group(1));
                calls.putIfAbsent(method, new TreeSet<>());
                continue;
            }
            m = CALL.matcher(line);
            if (m.find()) {
                String to = m.group(1).replace("\"", "");
                calls.get(method).add(to.contains(".") ? to : inClass + "." + to);
            }
        }
    }

    private static Set<String> reachedFrom(String method) {
        Set<String> reached = new TreeSet<>();
        List<String> open = new ArrayList<>(List.of(method));
        while (!open.isEmpty())
            for (String to : calls.getOrDefault(open.remove(open.size() - 1), Set.of()))
                if (reached.add(to)) open.add(to);
        return reached;
    }

    /** The longest chain of calls from a method on; of methods that call one another in a circle each counts once. */
    private static List<String> chainFrom(String method) {
        List<String> known = deepest.get(method);
        if (known != null) return known;
        Set<String> circle = new TreeSet<>(Set.of(method));
        for (String to : reachedFrom(method)) if (reachedFrom(to).contains(method)) circle.add(to);
        List<String> best = List.of();
        for (String member : circle)
            for (String to : calls.getOrDefault(member, Set.of())) {
                if (circle.contains(to)) continue;
                List<String> chain = chainFrom(to);
                if (chain.size() > best.size()) best = chain;
            }
        List<String> found = new ArrayList<>(circle);
        found.addAll(best);
        deepest.put(method, found);
        return found;
    }

    private static void bad(String what) {
        wrong++;
        System.out.println(what);
    }

    public static void main(String[] args) throws Exception {
        readCalls(disassembled());
        if (calls.size() < 100) bad("only " + calls.size() + " methods were found");
        Set<String> circles = new TreeSet<>();
        int most = 0;
        for (String method : calls.keySet()) {
            if (reachedFrom(method).contains(method)) circles.add(method.substring(method.indexOf('$') + 1));
            List<String> chain = chainFrom(method);
            if (chain.size() > DEEPEST) bad("rule 11, calls go " + chain.size() + " deep: " + chain);
            most = Math.max(most, chain.size());
        }
        // Each of these carries its depth as an argument, and refuses to go deeper than 11 and 6 levels.
        if (!circles.equals(Set.of("RuleReader.readFact", "RuleReader.readTest", "Orders.tryRows"))) bad("rule 8, recursion in " + circles);
        System.out.println(wrong == 0 ? "calls go " + most + " deep at most" : wrong + " things are outside the rules");
        if (wrong != 0) System.exit(1);
    }
}
