import java.io.ByteArrayOutputStream;
import java.io.IOException;
import java.io.InputStream;
import java.io.OutputStream;
import java.lang.reflect.Method;
import java.net.URI;
import java.nio.file.Files;
import java.nio.file.Path;
import java.util.ArrayList;
import java.util.HashMap;
import java.util.List;
import java.util.Map;
import java.util.concurrent.ConcurrentHashMap;
import javax.tools.FileObject;
import javax.tools.ForwardingJavaFileManager;
import javax.tools.JavaCompiler;
import javax.tools.JavaFileManager;
import javax.tools.JavaFileObject;
import javax.tools.SimpleJavaFileObject;
import javax.tools.ToolProvider;

/**
 * Each sentence's test would fail, if that sentence alone were broken: the class is broken so, compiled
 * in memory, and the test must notice. Run from the project's folder.
 */
public final class BrokenTest {
    private static final Path MAIN = Path.of("src/main/java/FindingsWeb.java");
    /** How far behind its anchor, in characters, what is broken may stand. */
    private static final int FAR = 2500;

    private static final class Task {
        final int number;
        final Sentences.Case c;
        final String[] broken;

        Task(int number, Sentences.Case c, String[] broken) {
            this.number = number;
            this.c = c;
            this.broken = broken;
        }
    }

    public static void main(String[] args) throws IOException {
        String source = Files.readString(MAIN);
        List<Task> tasks = new ArrayList<>();
        List<Sentences.Case> cases = Sentences.all();
        for (int i = 0; i < cases.size(); i++) {
            Check.that(cases.get(i) + ": a way to break it is named", !cases.get(i).broken.isEmpty());
            for (String[] broken : cases.get(i).broken) tasks.add(new Task(i, cases.get(i), broken));
        }
        List<String> faults = tasks.parallelStream().map(task -> faultOf(source, task)).toList();
        for (int i = 0; i < faults.size(); i++) {
            Task t = tasks.get(i);
            String what = t.c + ", broken by \"" + t.broken[2] + "\" for \"" + t.broken[1] + "\" behind \"" + t.broken[0] + "\": ";
            Check.that(what + faults.get(i), faults.get(i).isEmpty());
        }
        Check.end("BrokenTest");
    }

    /** What is wrong with this way to break the class; empty, if the test notices it. */
    private static String faultOf(String source, Task task) {
        int anchor = source.indexOf(task.broken[0]);
        if (anchor < 0 || source.indexOf(task.broken[0], anchor + 1) >= 0) return "the anchor stands not just once";
        int at = source.indexOf(task.broken[1], anchor);
        if (at < 0 || at > anchor + FAR) return "no such words";
        String broken = source.substring(0, at) + task.broken[2] + source.substring(at + task.broken[1].length());
        try {
            Map<String, byte[]> classes = COMPILED.computeIfAbsent(broken, BrokenTest::compile);
            if (classes.isEmpty()) return "doesn't compile";
            Class<?> there = new Loader(classes).loadClass("Sentences");
            Method test = there.getDeclaredMethod("wrongOfBroken", int.class);
            test.setAccessible(true);
            return (Integer) test.invoke(null, task.number) > 0 ? "" : "not noticed";
        } catch (ReflectiveOperationException e) {
            return e + " " + e.getCause();
        }
    }

    /** Several sentences are broken in the same way. */
    private static final Map<String, Map<String, byte[]>> COMPILED = new ConcurrentHashMap<>();
    private static final JavaCompiler COMPILER = ToolProvider.getSystemJavaCompiler();
    /** What the library has is looked up once for each thread. */
    private static final ThreadLocal<JavaFileManager> LIBRARY =
        ThreadLocal.withInitial(() -> COMPILER.getStandardFileManager(null, null, null));

    private static Map<String, byte[]> compile(String source) {
        Map<String, ByteArrayOutputStream> made = new HashMap<>();
        JavaFileManager files = new ForwardingJavaFileManager<JavaFileManager>(LIBRARY.get()) {
            @Override
            public JavaFileObject getJavaFileForOutput(Location l, String name, JavaFileObject.Kind kind, FileObject sibling) {
                return new SimpleJavaFileObject(URI.create("memory:///" + name + ".class"), kind) {
                    @Override
                    public OutputStream openOutputStream() {
                        return made.computeIfAbsent(name, n -> new ByteArrayOutputStream());
                    }
                };
            }
        };
        JavaFileObject text = new SimpleJavaFileObject(URI.create("memory:///FindingsWeb.java"), JavaFileObject.Kind.SOURCE) {
            @Override
            public CharSequence getCharContent(boolean ignoreErrors) {
                return source;
            }
        };
        Map<String, byte[]> classes = new HashMap<>();
        if (!COMPILER.getTask(null, files, d -> { }, List.of("-proc:none"), null, List.of(text)).call()) return classes;
        made.forEach((name, bytes) -> classes.put(name, bytes.toByteArray()));
        return classes;
    }

    /** Has a broken FindingsWeb, and tests of its own that meet it. */
    private static final class Loader extends ClassLoader {
        private final Map<String, byte[]> classes;

        Loader(Map<String, byte[]> classes) {
            super(BrokenTest.class.getClassLoader());
            this.classes = classes;
        }

        @Override
        protected Class<?> loadClass(String name, boolean resolve) throws ClassNotFoundException {
            boolean isOwn = name.startsWith("FindingsWeb") || name.startsWith("Sentences") || name.equals("Run") || name.equals("Check");
            if (!isOwn) return super.loadClass(name, resolve);
            synchronized (getClassLoadingLock(name)) {
                Class<?> found = findLoadedClass(name);
                return found != null ? found : define(name);
            }
        }

        private Class<?> define(String name) throws ClassNotFoundException {
            byte[] bytes = classes.get(name);
            if (bytes == null) {
                try (InputStream in = getResourceAsStream(name + ".class")) {
                    if (in == null) throw new ClassNotFoundException(name);
                    bytes = in.readAllBytes();
                } catch (IOException e) {
                    throw new ClassNotFoundException(name, e);
                }
            }
            return defineClass(name, bytes, 0, bytes.length);
        }
    }
}
