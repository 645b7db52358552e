import java.io.IOException;
import java.lang.reflect.Constructor;
import java.lang.reflect.Field;
import java.lang.reflect.Method;
import java.lang.reflect.Modifier;
import java.nio.file.Files;
import java.nio.file.Path;
import java.util.ArrayList;
import java.util.Arrays;
import java.util.List;
import java.util.TreeSet;
import java.util.regex.Matcher;
import java.util.regex.Pattern;

/**
 * The class's face: its constants, constructor and methods as the document tells them, and no other. Run from the
 * project's folder.
 */
public final class FaceTest {
    private static final Path DOC = Path.of("../shared/DOC.md");
    private static final Path MAIN = Path.of("src/main/java/FindingsWeb.java");
    private static final String[] FACE = {
        "int node(int, int, int, int)", "int row(int, int, int, int, int)", "int told(int, int)", "int done(int, int)",
        "int hint(int, int, int, int)", "int feed(int)", "int text()", "int of(int, int)", "int cell(int, int, int)",
        "int print(int, int)", "long weight()", "long power(int)", "long odds(int, int, int)",
        "long both(int, int, int, int, int)", "long shown(int, int)", "long would(int, int, int, int, int)",
        "long without(int, int, int, int)", "int likely(int)", "int apart(int, int)", "long tells(int, int, int)",
        "int telling(int)", "int leaves(int, int)", "int cluster(int, int)", "int cost(int)", "int drawn(int, int)",
        "int chance(int, int, int, int, int)", "int film(int)", "int lay(int, int)", "int image()", "int back()",
        "int count(int)", "int sheet(int, int, int)", "int put(int, int, long)", "long item(int, int)",
        "int copy(int, int, int, int, int)"};

    public static void main(String[] args) throws IllegalAccessException, IOException {
        constants();
        methods();
        String doc = Files.readString(DOC);
        String source = Files.readString(MAIN);
        sameWords(doc, source);
        promises(doc);
        headings(doc, source);
        Check.end("FaceTest");
    }

    private static void constants() throws IllegalAccessException {
        TreeSet<String> found = new TreeSet<>();
        for (Field f : FindingsWeb.class.getDeclaredFields()) {
            if (Modifier.isPrivate(f.getModifiers())) continue;
            Check.due(f + " is public static final", f.getModifiers(), Modifier.PUBLIC | Modifier.STATIC | Modifier.FINAL);
            found.add(f.getType() + " " + f.getName() + " " + f.get(null));
        }
        String want = "[int BAD -2, int FULL -4, int NONE -1, int STATE -3, long NO -4611686018427387904]";
        Check.that(found + ", due is " + want, found.toString().equals(want));
    }

    private static void methods() {
        TreeSet<String> found = new TreeSet<>();
        TreeSet<String> names = new TreeSet<>();
        for (Method m : FindingsWeb.class.getDeclaredMethods()) {
            if (m.isSynthetic() || Modifier.isPrivate(m.getModifiers())) continue;
            Check.due(m + " is public alone", m.getModifiers(), Modifier.PUBLIC);
            String parameters = Arrays.toString(m.getParameterTypes());
            found.add(m.getReturnType() + " " + m.getName() + "(" + parameters.substring(1, parameters.length() - 1) + ")");
            names.add(m.getName());
        }
        TreeSet<String> want = new TreeSet<>(Arrays.asList(FACE));
        Check.that(found + ", due is " + want, found.equals(want));
        for (Method m : FindingsWeb.class.getDeclaredMethods()) {
            Check.that(m + " bears a public one's name", !Modifier.isPrivate(m.getModifiers()) || !names.contains(m.getName()));
        }
        Constructor<?>[] made = FindingsWeb.class.getDeclaredConstructors();
        Check.due("one constructor", made.length, 1);
        Check.due("it is public", made[0].getModifiers(), Modifier.PUBLIC);
        Check.due("without parameters", made[0].getParameterCount(), 0);
        Check.due("the class", FindingsWeb.class.getModifiers(), Modifier.PUBLIC | Modifier.FINAL);
        for (Class<?> inside : FindingsWeb.class.getDeclaredClasses()) {
            Check.that(inside + " is static", Modifier.isStatic(inside.getModifiers()));
            Check.that(inside + " is hidden", (inside.getModifiers() & (Modifier.PUBLIC | Modifier.PROTECTED)) == 0);
        }
    }

    /** The lines of a face, in their order, without what ends or follows them. */
    private static List<String> face(String text) {
        List<String> lines = new ArrayList<>();
        Matcher m = Pattern.compile("(?m)^(?:    )?public .*$").matcher(text);
        while (m.find()) lines.add(m.group().trim().replaceAll("\\s*[;{]$", ""));
        return lines;
    }

    /** "The public face": the source's lines are the document's, parameters' names and the order, too. */
    private static void sameWords(String doc, String source) {
        int begin = doc.indexOf("```java");
        List<String> want = face(doc.substring(begin, doc.indexOf("```", begin + 3)));
        List<String> got = face(source);
        Check.due("lines of the face", want.size(), FACE.length + 4);
        Check.that("the face is " + got + ", due is " + want, got.equals(want));
    }

    /** Each promise but the first tells a method as the face does, one promise for each, in the face's order. */
    private static void promises(String doc) {
        List<String> told = new ArrayList<>();
        Matcher m = Pattern.compile("## Promise \\d+: (\\w+)\\s+`(\\w+ \\1\\([^`]*)`:").matcher(doc);
        while (m.find()) told.add("public " + m.group(2));
        List<String> lines = face(doc);
        Check.that("promises tell " + told, told.equals(lines.subList(4, lines.size())));
    }

    /** "Ahead of the calls .. the interface says: ---- ..": the source says so ahead of the same calls. */
    private static void headings(String doc, String source) {
        Matcher m = Pattern.compile("Ahead of the calls (.*) the interface says: (---- .*)\\.").matcher(doc);
        int found = 0;
        for (; m.find(); found++) {
            String heading = "// " + m.group(2) + "\n";
            int at = source.indexOf(heading);
            Check.that(heading.trim() + " stands in the source", at >= 0);
            int end = source.indexOf("// ----", at + heading.length());
            TreeSet<String> calls = new TreeSet<>();
            Matcher call = Pattern.compile("(?m)^    public \\w+ (\\w+)\\(").matcher(source.substring(Math.max(at, 0), end < 0 ? source.length() : end));
            while (call.find()) calls.add(call.group(1));
            TreeSet<String> want = new TreeSet<>(Arrays.asList(m.group(1).replace("`", "").split(", ")));
            Check.that("behind " + heading.trim() + " stand " + calls + ", due is " + want, calls.equals(want));
        }
        Check.due("headings", found, 6);
    }
}
