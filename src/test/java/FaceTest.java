import java.lang.reflect.Constructor;
import java.lang.reflect.Field;
import java.lang.reflect.Method;
import java.lang.reflect.Modifier;
import java.util.Arrays;
import java.util.TreeSet;

/** The class's face: its constants, constructor and methods as the document tells them, and no other. */
public final class FaceTest {
    private static final String[] FACE = {
        "int node(int, int, int, int)", "int row(int, int, int, int, int)", "int told(int, int)", "int done(int, int)",
        "int hint(int, int, int, int)", "int feed(int)", "int text()", "int of(int, int)", "int cell(int, int, int)",
        "int print(int, int)", "long weight()", "long power(int)", "long odds(int, int, int)",
        "long both(int, int, int, int, int)", "long shown(int, int)", "long would(int, int, int, int, int)",
        "long without(int, int, int, int)", "int likely(int)", "int apart(int, int)", "long tells(int, int, int)",
        "int telling(int)", "int leaves(int, int)", "int cluster(int, int)", "int cost(int)", "int drawn(int, int)",
        "int chance(int, int, int, int, int)", "int film(int)", "int lay(int, int)", "int image()", "int back()",
        "int count(int)", "int sheet(int, int, int)", "int put(int, int, long)", "long item(int, int)",
        "int copy(int, int, int, int, int)"};

    public static void main(String[] args) throws IllegalAccessException {
        constants();
        methods();
        Check.end("FaceTest");
    }

    private static void constants() throws IllegalAccessException {
        TreeSet<String> found = new TreeSet<>();
        for (Field f : FindingsWeb.class.getDeclaredFields()) {
            if (Modifier.isPrivate(f.getModifiers())) continue;
            Check.due(f + " is public static final", f.getModifiers(), Modifier.PUBLIC | Modifier.STATIC | Modifier.FINAL);
            found.add(f.getType() + " " + f.getName() + " " + f.get(null));
        }
        String want = "[int BAD -2, int FULL -4, int NONE -1, int STATE -3, long NO -4611686018427387904]";
        Check.that(found + ", due is " + want, found.toString().equals(want));
    }

    private static void methods() {
        TreeSet<String> found = new TreeSet<>();
        TreeSet<String> names = new TreeSet<>();
        for (Method m : FindingsWeb.class.getDeclaredMethods()) {
            if (m.isSynthetic() || Modifier.isPrivate(m.getModifiers())) continue;
            Check.due(m + " is public alone", m.getModifiers(), Modifier.PUBLIC);
            String parameters = Arrays.toString(m.getParameterTypes());
            found.add(m.getReturnType() + " " + m.getName() + "(" + parameters.substring(1, parameters.length() - 1) + ")");
            names.add(m.getName());
        }
        TreeSet<String> want = new TreeSet<>(Arrays.asList(FACE));
        Check.that(found + ", due is " + want, found.equals(want));
        for (Method m : FindingsWeb.class.getDeclaredMethods()) {
            Check.that(m + " bears a public one's name", !Modifier.isPrivate(m.getModifiers()) || !names.contains(m.getName()));
        }
        Constructor<?>[] made = FindingsWeb.class.getDeclaredConstructors();
        Check.due("one constructor", made.length, 1);
        Check.due("it is public", made[0].getModifiers(), Modifier.PUBLIC);
        Check.due("without parameters", made[0].getParameterCount(), 0);
        Check.due("the class", FindingsWeb.class.getModifiers(), Modifier.PUBLIC | Modifier.FINAL);
        for (Class<?> inside : FindingsWeb.class.getDeclaredClasses()) {
            Check.that(inside + " is static", Modifier.isStatic(inside.getModifiers()));
            Check.that(inside + " is hidden", (inside.getModifiers() & (Modifier.PUBLIC | Modifier.PROTECTED)) == 0);
        }
    }
}
