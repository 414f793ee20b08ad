import java.io.File;
import java.lang.reflect.Method;
import java.lang.reflect.Modifier;
import java.net.URL;
import java.net.URLClassLoader;
import java.nio.file.Files;
import java.nio.file.Path;
import java.util.regex.Matcher;
import java.util.regex.Pattern;
import javax.tools.ToolProvider;

/** What README.md says is true: its example runs as its comments tell, and names all calls and tests. */
public final class ReadmeTest {
    private static final Pattern BLOCK = Pattern.compile("```java\n(.*?)```", Pattern.DOTALL);
    private static final Pattern ANSWER =
            Pattern.compile("(x\\.\\w+\\(.*\\));\\s+// (-?(?:0x[0-9A-F]+L|[0-9]+L?))(?:[:, ].*)?");
    private static final Pattern THROWN = Pattern.compile("(x\\.\\w+\\(.*\\));\\s+// throws (\\w+)");
    private static final Check CHECK = new Check("ReadmeTest");

    /** What the example's class is given: it is another class loader's, and sees what is public alone. */
    public interface Call {
        void make();
    }

    public static void main(String[] args) throws Exception {
        String readme = Files.readString(Path.of("README.md"));
        Matcher block = BLOCK.matcher(readme);
        int blocks = 0;
        while (block.find()) {
            blocks++;
            run(block.group(1));
            namesAllCalls(block.group(1));
        }
        CHECK.due("examples", blocks, 1);
        namesAllTests(readme);
        CHECK.end();
    }

    public static void due(String what, long got, long want) {
        CHECK.due(what, got, want);
    }

    public static void dueThrown(String what, String want, Call call) {
        String got = "nothing";
        try {
            call.make();
        } catch (RuntimeException e) {
            got = e.getClass().getSimpleName();
        }
        CHECK.dueText(what + " throws", got, want);
    }

    private static void run(String example) throws Exception {
        StringBuilder code = new StringBuilder("public final class Example {\npublic static void run() {\n");
        int answers = 0;
        for (String line : example.split("\n")) {
            String checked = checked(line);
            answers += checked.equals(line) ? 0 : 1;
            code.append(checked).append('\n');
        }
        CHECK.due("lines with an answer, ten at least", Math.min(answers, 10), 10);
        Path out = Files.createTempDirectory("readme");
        Path source = out.resolve("Example.java");
        Path made = out.resolve("Example.class");
        try {
            Files.writeString(source, code.append("}\n}\n"));
            int failed = ToolProvider.getSystemJavaCompiler().run(null, null, null, "-proc:none",
                    "-cp", System.getProperty("java.class.path"), "-d", out.toString(), source.toString());
            CHECK.due("compiling the example", failed, 0);
            if (failed == 0) {
                try (URLClassLoader loader = new URLClassLoader(new URL[] {out.toUri().toURL()})) {
                    loader.loadClass("Example").getMethod("run").invoke(null);
                }
            }
        } finally {
            Files.deleteIfExists(made);
            Files.deleteIfExists(source);
            Files.deleteIfExists(out);
        }
    }

    private static String checked(String line) {
        Matcher answer = ANSWER.matcher(line);
        if (answer.matches()) {
            return "ReadmeTest.due(\"" + answer.group(1) + "\", " + answer.group(1) + ", " + literal(answer.group(2))
                    + ");";
        }
        Matcher thrown = THROWN.matcher(line);
        if (thrown.matches()) {
            return "ReadmeTest.dueThrown(\"" + thrown.group(1) + "\", \"" + thrown.group(2) + "\", () -> "
                    + thrown.group(1) + ");";
        }
        return line;
    }

    private static String literal(String number) {
        return number.endsWith("L") ? number : number + "L";
    }

    private static void namesAllCalls(String example) {
        for (Method method : DecimalWords.class.getDeclaredMethods()) {
            if (Modifier.isPublic(method.getModifiers())) {
                CHECK.due(method.getName() + " stands in the example",
                        example.contains("x." + method.getName() + "(") ? 1 : 0, 1);
            }
        }
    }

    private static void namesAllTests(String readme) {
        File[] files = new File("src/test/java").listFiles();
        CHECK.due("there are tests", files == null ? 0 : 1, 1);
        for (File file : files == null ? new File[0] : files) {
            String name = file.getName().replace(".java", "");
            CHECK.due(name + " stands in the README",
                    !name.endsWith("Test") || readme.contains("`" + name + "`") ? 1 : 0, 1);
        }
    }
}
