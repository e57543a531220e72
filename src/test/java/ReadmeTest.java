import java.io.File;
import java.lang.reflect.Method;
import java.net.URL;
import java.net.URLClassLoader;
import java.nio.file.Files;
import java.nio.file.Path;
import java.util.regex.Matcher;
import java.util.regex.Pattern;
import java.util.spi.ToolProvider;

/** README.md's Java is compiled and run as it stands; a call with a number behind it must answer that; every call has its row. */
public final class ReadmeTest extends Told {
    private static final Pattern BLOCK = Pattern.compile("(?s)```java\n(.*?)```");
    private static final Pattern ANSWERED = Pattern.compile("(?m)^(x\\.\\w+\\([^;]*\\));\\s*// (-?\\d+):.*$");

    /** The helpers' block comes first, the run behind it. */
    private static String source(String page) {
        Matcher blocks = BLOCK.matcher(page);
        String helpers = blocks.find() ? blocks.group(1) : "";
        String run = blocks.find() ? blocks.group(1) : "";
        String checked = ANSWERED.matcher(run).replaceAll(m -> "answers.add(\"" + m.group(1) + "\"); got.add(" + m.group(1) + "); want.add(" + m.group(2) + ");");
        return "import java.util.*; public class ReadmeRun {\n" + helpers
            + "public static void run(List<String> answers, List<Integer> got, List<Integer> want) {\n" + checked + "}}\n";
    }

    private static void runAsTold(String page) throws Exception {
        Path folder = Files.createTempDirectory("readme");
        Path file = folder.resolve("ReadmeRun.java");
        Files.writeString(file, source(page));
        int compiled = ToolProvider.findFirst("javac").orElseThrow()
            .run(System.out, System.out, "-cp", System.getProperty("java.class.path"), "-d", folder.toString(), file.toString());
        due("README", "javac of its Java", compiled, 0);
        if (compiled == 0) {
            var answers = new java.util.ArrayList<String>();
            var got = new java.util.ArrayList<Integer>();
            var want = new java.util.ArrayList<Integer>();
            try (URLClassLoader loader = new URLClassLoader(new URL[] {folder.toUri().toURL()})) {
                Method run = loader.loadClass("ReadmeRun").getMethod("run", java.util.List.class, java.util.List.class, java.util.List.class);
                run.invoke(null, answers, got, want);
            }
            for (int i = 0; i < answers.size(); i++) due("README, answer " + i, answers.get(i), got.get(i), want.get(i));
            due("README", "answers of the run that are told", answers.size() >= 20 ? 1 : 0, 1);
        }
        for (File left : folder.toFile().listFiles()) Files.delete(left.toPath());
        Files.delete(folder);
    }

    public static void main(String[] args) throws Exception {
        String page = Files.readString(Path.of("README.md"));
        runAsTold(page);
        String table = page.substring(page.indexOf("| call |"), page.indexOf("## How it is made"));
        for (Method method : SmokeWord.class.getDeclaredMethods())
            if (java.lang.reflect.Modifier.isPublic(method.getModifiers()))
                due("README", "a row of " + method.getName(), table.contains("`" + method.getName() + "(") ? 1 : 0, 1);
        finish();
    }
}
