import java.lang.reflect.InvocationTargetException;
import java.net.URL;
import java.net.URLClassLoader;
import java.nio.file.Files;
import java.nio.file.Path;
import java.util.regex.Matcher;
import java.util.regex.Pattern;
import javax.tools.JavaCompiler;
import javax.tools.ToolProvider;

/** The examples of README.md, compiled as they stand there: each answer must be the one behind its //. */
public final class ReadmeTest {
    private static final Pattern BLOCK = Pattern.compile("```java\n(.*?)```", Pattern.DOTALL);
    private static final Pattern ANSWERED = Pattern.compile("(?m)^(x\\.\\w+\\([^\"\n]*?\\)); +// (-?\\d+|true|false)\\b.*$");
    private static final Pattern CALL = Pattern.compile("(?m)^x\\.");

    private static int answers = 0;

    public static void main(String[] args) throws Exception {
        String code = code(Files.readString(Path.of("README.md")));
        Path dir = Files.createTempDirectory("readme");
        Path file = dir.resolve("ReadmeExamples.java");
        Files.writeString(file, code);
        JavaCompiler compiler = ToolProvider.getSystemJavaCompiler();
        String here = Path.of(SameAfter.class.getProtectionDomain().getCodeSource().getLocation().toURI()).toString();
        boolean good = compiler.run(null, null, null, "-cp", here, "-d", dir.toString(), file.toString()) == 0;
        Talk.due("(the examples compile)", good, true);
        Talk.due("(there are examples of each kind)", answers > 40, true);
        if (good) {
            run(dir);
        }
        for (String name : new String[] {"ReadmeExamples.class", "ReadmeExamples.java"}) {
            Files.deleteIfExists(dir.resolve(name));
        }
        Files.delete(dir);
        Talk.close("ReadmeTest");
    }

    private static void run(Path dir) throws Exception {
        try (URLClassLoader loader = new URLClassLoader(new URL[] {dir.toUri().toURL()})) {
            loader.loadClass("ReadmeExamples").getMethod("all", Due.class).invoke(null, new Due());
        } catch (InvocationTargetException e) {
            Talk.due("(the examples ended by " + e.getCause() + ")", false, true);
        }
    }

    /** What the examples tell their answers to. */
    public static final class Due {
        public void due(String call, int got, int want) { Talk.due("README.md: " + call, got, want); }
        public void due(String call, boolean got, boolean want) { Talk.due("README.md: " + call, got, want); }
    }

    private static String code(String readme) {
        StringBuilder helpers = new StringBuilder();
        StringBuilder body = new StringBuilder();
        Matcher block = BLOCK.matcher(readme);
        while (block.find()) {
            String text = block.group(1);
            if (text.startsWith("static ")) {
                helpers.append(text);
            } else {
                body.append("{\n").append(asked(text)).append("}\n");
            }
        }
        return "public final class ReadmeExamples {\n" + helpers
            + "public static void all(ReadmeTest.Due t) {\n" + body + "}\n}\n";
    }

    private static String asked(String text) {
        Matcher m = ANSWERED.matcher(text);
        StringBuilder out = new StringBuilder();
        while (m.find()) {
            answers++;
            m.appendReplacement(out, Matcher.quoteReplacement("t.due(\"" + m.group(1) + "\", " + m.group(1) + ", " + m.group(2) + ");"));
        }
        m.appendTail(out);
        Talk.due("(each call of an example has its answer)" + out, CALL.matcher(out).find(), false);
        return out.toString();
    }
}
