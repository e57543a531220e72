import java.nio.file.Files;
import java.nio.file.Path;
import java.util.ArrayList;
import java.util.List;
import java.util.regex.Matcher;
import java.util.regex.Pattern;

/** The rules of LANGUAGE.md that can be seen in the source's text or by reflection. */
public final class LanguageTest {
    private static int wrong = 0;

    private static void bad(String what) {
        wrong++;
        System.out.println(what);
    }

    private static String withoutComments(String source) {
        return source.replaceAll("(?s)/\\*.*?\\*/", "").replaceAll("//[^\n]*", "");
    }

    private static void forbid(String code, String pattern, String why) {
        Matcher m = Pattern.compile(pattern).matcher(code);
        if (m.find()) bad(why + ": " + m.group());
    }

    private static void words(String code) {
        forbid(code, "\\b(throw|throws|try|catch|finally|synchronized|assert|volatile|transient|native)\\b", "rule 6");
        forbid(code, "->|::", "rule 2, a lambda or method reference");
        forbid(code, "\\b(protected|package|extends Thread|System\\.(?!arraycopy))\\b", "a word that has no place here");
        forbid(code, "\"\\s*\\+|\\+\\s*\"", "rule 10, texts joined by +");
        forbid(code, "static\\s*\\{", "rule 5, a static block");
        forbid(code, "static\\s+(?!final|boolean|int|long|void)\\w+", "rule 5, a static field that is not final");
        forbid(code, "import (?!java\\.util\\.Arrays;)", "rule 4, an import");
        forbid(code, "[^\\x00-\\x7f]", "rule 4, a sign above 127");
    }

    private static void face(String code) {
        List<String> open = new ArrayList<>();
        Matcher m = Pattern.compile("public (?:static )?(?:int )?(\\w+)\\(").matcher(code);
        while (m.find()) open.add(m.group(1));
        if (open.size() != 34) bad("rule 1, public constructor and methods: " + open.size());
        Matcher own = Pattern.compile("\n {4,}(?:private )?(?:static )?(?:boolean|int|long|void|Rule) (\\w+)\\([^)]*\\) \\{").matcher(code);
        while (own.find()) if (open.contains(own.group(1))) bad("rule 1, a private method with a public one's name: " + own.group(1));
        for (var field : SmokeWord.class.getDeclaredFields())
            if (!java.lang.reflect.Modifier.isPrivate(field.getModifiers()) && !field.getName().equals("NONE")) bad("rule 1: " + field);
        for (var method : SmokeWord.class.getDeclaredMethods()) {
            boolean isOpen = open.contains(method.getName());
            if (!isOpen && !java.lang.reflect.Modifier.isPrivate(method.getModifiers()) && !method.isSynthetic()) bad("rule 1: " + method);
        }
    }

    private static void sizes(String source) {
        String[] lines = source.split("\n");
        int start = -1;
        String name = "";
        for (int i = 0; i < lines.length; i++) {
            String line = lines[i];
            if (line.matches(" {4,8}(public|private|static|final|boolean|int|long|void|Rule|[A-Z]\\w+).*\\(.*\\) \\{")) {
                start = i;
                name = line.trim();
                String inside = name.substring(name.indexOf('(') + 1, name.lastIndexOf(')'));
                if (inside.split(",").length > 7) bad("rule 11, too many parameters: " + name);
            }
            if (line.matches(" {4,8}\\}") && start >= 0) {
                if (i - start > 60) bad("rule 11, too long: " + name);
                start = -1;
            }
        }
        int classes = SmokeWord.class.getDeclaredClasses().length;
        if (classes > 11) bad("rule 11, classes: " + (classes + 1));
        for (Class<?> c : SmokeWord.class.getDeclaredClasses()) {
            if (!java.lang.reflect.Modifier.isStatic(c.getModifiers())) bad("rule 2, not static: " + c);
            long fields = java.util.Arrays.stream(c.getDeclaredFields())
                .filter(f -> !java.lang.reflect.Modifier.isStatic(f.getModifiers())).count();
            if (fields > 20) bad("rule 11, fields of " + c + ": " + fields);
        }
    }

    public static void main(String[] args) throws Exception {
        String source = Files.readString(Path.of("src/main/java/SmokeWord.java"));
        String code = withoutComments(source);
        words(code);
        face(code);
        sizes(source);
        System.out.println(wrong == 0 ? "the source keeps to the rules" : wrong + " things are outside the rules");
        if (wrong != 0) System.exit(1);
    }
}
