import java.io.File;
import java.lang.reflect.Method;
import java.lang.reflect.Modifier;
import java.net.URL;
import java.net.URLClassLoader;
import java.nio.file.Files;
import java.nio.file.Path;
import java.util.ArrayList;
import java.util.List;
import java.util.regex.Matcher;
import java.util.regex.Pattern;
import java.util.spi.ToolProvider;

/** What README.md says holds: its example answers as it tells, and it names all calls, classes and tests. */
public final class ReadmeTest {
    private static final Check C = new Check();

    public static void main(String[] args) throws Exception {
        String readme = Files.readString(Path.of("README.md"));
        names(readme);
        example(readme);
        C.finish();
    }

    private static void names(String readme) {
        for (Method m : AnswersFirst.class.getDeclaredMethods()) {
            if (Modifier.isPublic(m.getModifiers())) {
                C.due(0, "README.md names " + m.getName(), readme.contains("`" + m.getName() + "`"), true);
            }
        }
        for (Class<?> c : AnswersFirst.class.getDeclaredClasses()) {
            C.due(0, "README.md names " + c.getSimpleName(), readme.contains("`" + c.getSimpleName() + "`"), true);
        }
        File[] tests = new File("src/test/java").listFiles((dir, name) -> name.endsWith("Test.java"));
        for (File test : tests) {
            String name = "`" + test.getName().replace(".java", "") + "`";
            C.due(0, "README.md names " + name, readme.contains(name), true);
        }
        C.due(0, "README.md says how the tests are run", readme.contains("\n.ci/run\n"), true);
    }

    /** Makes a class of the example, in which each line's answer is looked at, and runs it. */
    private static void example(String readme) throws Exception {
        int begin = readme.indexOf("```java\n") + "```java\n".length();
        String code = readme.substring(begin, readme.indexOf("\n```", begin));
        List<String> told = new ArrayList<>();
        StringBuilder made = new StringBuilder("public class Example { public static String[] run() {\n");
        made.append("java.util.List<String> got = new java.util.ArrayList<>();\n");
        Pattern line = Pattern.compile("(?:int (\\w+) = )?(x\\.\\w+\\(.*\\));\\s+// (-?\\d+|NONE|true|false): .*");
        for (String text : code.split("\n")) {
            Matcher m = line.matcher(text);
            if (m.matches()) {
                made.append(m.group(1) == null ? "" : text + "\n");
                made.append("got.add(\"\" + ").append(m.group(1) == null ? m.group(2) : m.group(1)).append(");\n");
                told.add(m.group(3).equals("NONE") ? "-1" : m.group(3));
            } else {
                C.due(0, "an answer is told for " + text, text.startsWith("AnswersFirst x = new"), true);
                made.append(text).append("\n");
            }
        }
        made.append("return got.toArray(new String[0]); } }\n");
        String[] got = run(made.toString());
        C.due(0, "lines of the example", got.length, told.size());
        C.due(0, "there is an example", told.size() > 5, true);
        for (int i = 0; i < Math.min(got.length, told.size()); i++) {
            C.due(0, "line " + i + " of the example: " + got[i] + " is " + told.get(i), got[i].equals(told.get(i)), true);
        }
    }

    private static String[] run(String source) throws Exception {
        Path dir = Files.createTempDirectory("readme");
        Path file = dir.resolve("Example.java");
        Files.writeString(file, source);
        String classes = Path.of(AnswersFirst.class.getProtectionDomain().getCodeSource().getLocation().toURI()).toString();
        int failed = ToolProvider.findFirst("javac").orElseThrow()
                .run(System.out, System.out, "-cp", classes, "-d", dir.toString(), file.toString());
        C.due(0, "the example compiles", failed, 0);
        String[] got = {};
        if (failed == 0) {
            try (URLClassLoader loader = new URLClassLoader(new URL[] {dir.toUri().toURL()})) {
                got = (String[]) loader.loadClass("Example").getMethod("run").invoke(null);
            }
        }
        Files.deleteIfExists(file);
        Files.deleteIfExists(dir.resolve("Example.class"));
        Files.deleteIfExists(dir);
        return got;
    }
}
