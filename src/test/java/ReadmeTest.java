import java.io.IOException;
import java.lang.reflect.Method;
import java.nio.file.Files;
import java.nio.file.Path;
import java.util.ArrayList;
import java.util.List;
import java.util.regex.Matcher;
import java.util.regex.Pattern;
import javax.tools.JavaCompiler;
import javax.tools.ToolProvider;

/** README.md: its calls, one behind the other, answer the numbers behind their //; run from the project's folder. */
public final class ReadmeTest {
    private static final Path README = Path.of("README.md");
    private static final Pattern BLOCK = Pattern.compile("(?s)```java\n(.*?)```");
    private static final Pattern CALL = Pattern.compile("(int \\w+ = )?(x\\.\\w+\\(.*\\)); // (-?[\\w.]+).*");

    private final List<String> calls = new ArrayList<>();
    private final StringBuilder statements = new StringBuilder();

    public static void main(String[] args) throws IOException, ReflectiveOperationException {
        ReadmeTest test = new ReadmeTest();
        Matcher block = BLOCK.matcher(Files.readString(README));
        while (block.find()) {
            for (String line : block.group(1).split("\n")) test.take(line);
        }
        Check.that(test.calls.size() + " calls with an answer", test.calls.size() >= 30);
        test.run();
        Check.end("ReadmeTest");
    }

    /** Answers go into got, what stands behind // into want. */
    private void take(String line) {
        Matcher m = CALL.matcher(line);
        if (!m.matches()) {
            Check.that(line + ": an answer is told", !line.startsWith("x.") && !line.startsWith("int "));
            statements.append(line).append('\n');
            return;
        }
        String value = m.group(2);
        if (m.group(1) != null) {
            statements.append(m.group(1)).append(value).append(";\n");
            value = m.group(1).split(" ")[1];
        }
        statements.append("got[").append(calls.size()).append("] = ").append(value).append(";\n");
        statements.append("want[").append(calls.size()).append("] = ").append(m.group(3)).append(";\n");
        calls.add(m.group(2));
    }

    private void run() throws IOException, ReflectiveOperationException {
        Path folder = Files.createTempDirectory("readme");
        Path source = folder.resolve("Page.java");
        Files.writeString(source, "final class Page { static void run(long[] got, long[] want) {\n" + statements + "} }\n");
        JavaCompiler compiler = ToolProvider.getSystemJavaCompiler();
        String classes = System.getProperty("java.class.path");
        int wrong = compiler.run(null, null, null, "-proc:none", "-cp", classes, "-d", folder.toString(), source.toString());
        Check.due("README.md's calls compile", wrong, 0);
        if (wrong == 0) compare(Files.readAllBytes(folder.resolve("Page.class")));
        Files.deleteIfExists(folder.resolve("Page.class"));
        Files.deleteIfExists(source);
        Files.deleteIfExists(folder);
    }

    private void compare(byte[] page) throws ReflectiveOperationException {
        long[] got = new long[calls.size()];
        long[] want = new long[calls.size()];
        Method run = new Loader().define(page).getDeclaredMethod("run", long[].class, long[].class);
        run.setAccessible(true);
        run.invoke(null, got, want);
        for (int i = 0; i < got.length; i++) Check.due("README.md: " + calls.get(i), got[i], want[i]);
    }

    private static final class Loader extends ClassLoader {
        Class<?> define(byte[] bytes) {
            return defineClass("Page", bytes, 0, bytes.length);
        }
    }
}
