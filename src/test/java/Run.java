import java.lang.reflect.InvocationTargetException;
import java.lang.reflect.Method;
import java.nio.charset.StandardCharsets;
import java.util.ArrayList;
import java.util.HashMap;
import java.util.List;
import java.util.Map;

/** Calls on one new object, each written as words: "told 0 1" is told(0, 1). */
final class Run {
    static final int NONE = -1, BAD = -2, STATE = -3, FULL = -4;
    static final int MISSING = -11, OUTSIDE = -12, UNLIKE = -13, BELOW = -14;
    static final long NO = -4611686018427387904L;

    /** What later calls answer is free. */
    private static final int CALLS = 512;
    private static final Map<String, Method> METHODS = methods();

    private final FindingsWeb x = new FindingsWeb();
    /** The calls made, but for those that had to be refused. */
    private final List<String> taken = new ArrayList<>();
    private int made;

    private Run() { }

    private static Map<String, Method> methods() {
        Map<String, Method> found = new HashMap<>();
        for (Method m : FindingsWeb.class.getDeclaredMethods()) found.put(m.getName(), m);
        return found;
    }

    /** A new object after these calls, with ; between; none of them may be refused. */
    static Run of(String... calls) {
        Run run = new Run();
        for (String some : calls) {
            for (String call : some.split(";")) {
                long answer = run.take(call.trim());
                Check.that(call + " answered " + answer, answer >= NONE);
            }
        }
        return run;
    }

    static Run of() {
        return new Run();
    }

    private long take(String call) {
        taken.add(call);
        return answer(call);
    }

    private long answer(String call) {
        if (++made > CALLS) throw new IllegalStateException("more calls than are promised");
        String[] words = call.split(" ");
        Method m = METHODS.get(words[0]);
        if (m == null) throw new IllegalArgumentException(call);
        Object[] numbers = new Object[words.length - 1];
        for (int i = 0; i < numbers.length; i++) {
            boolean isLong = m.getParameterTypes()[i] == long.class;
            if (isLong) numbers[i] = Long.valueOf(words[i + 1]);
            else numbers[i] = Integer.valueOf(words[i + 1]);
        }
        try {
            return ((Number) m.invoke(x, numbers)).longValue();
        } catch (IllegalAccessException | InvocationTargetException e) {
            throw new IllegalStateException(call, e);
        }
    }

    /** Each of these calls answers so. */
    Run due(long want, String... calls) {
        for (String call : calls) Check.due(call, take(call), want);
        return this;
    }

    /** Each of these calls is refused so, and all is as before. */
    Run refuses(long want, String... calls) {
        for (String call : calls) Check.due(call, answer(call), want);
        Run twin = of();
        Run same = of();
        for (String call : taken) {
            twin.answer(call);
            same.answer(call);
        }
        for (String call : calls) twin.answer(call);
        String got = twin.all();
        String all = same.all();
        Check.that("after " + String.join("; ", calls) + " it is " + got + ", due is " + all, got.equals(all));
        return this;
    }

    /** Both lines of a fraction; the call's words but for line. */
    Run fraction(long above, long below, String... calls) {
        for (String call : calls) {
            due(above, call + " 0");
            due(below, call + " 1");
        }
        return this;
    }

    /** So many twelfths, in lowest terms. */
    Run twelfths(int number, String call) {
        int common = java.math.BigInteger.valueOf(number).gcd(java.math.BigInteger.valueOf(12)).intValue();
        return fraction(number / common, 12 / common, call);
    }

    /** The same at both lines: NO, or STATE. */
    Run bothLines(long want, String... calls) {
        for (String call : calls) due(want, call + " 0", call + " 1");
        return this;
    }

    /** LINE of a NODE, letter by letter. */
    Run prints(int node, String want) {
        String got = line(node);
        Check.that("print " + node + " is \"" + got + "\", due is \"" + want + "\"", got.equals(want));
        return this;
    }

    private String line(int node) {
        StringBuilder letters = new StringBuilder();
        long size = take("print " + node + " -1");
        for (int i = 0; i < size && i < CALLS; i++) letters.append((char) take("print " + node + " " + i));
        return letters.toString();
    }

    Run feeds(String text) {
        for (byte b : text.getBytes(StandardCharsets.ISO_8859_1)) take("feed " + (b & 255));
        return this;
    }

    /** What text answers, once THE TAPE has these bytes. */
    Run reads(String text, long want) {
        feeds(text);
        Check.due("text \"" + text + "\"", take("text"), want);
        return this;
    }

    /** SHEET sheet becomes one of a sort with these items. */
    Run fills(int sheet, int sort, long... items) {
        due(1, "sheet " + sheet + " " + sort + " " + items.length);
        for (int i = 0; i < items.length; i++) due(1, "put " + sheet + " " + i + " " + items[i]);
        return this;
    }

    /** A SHEET has these items, and no more. */
    Run items(int sheet, long... want) {
        for (int i = 0; i < want.length; i++) due(want[i], "item " + sheet + " " + i);
        return due(OUTSIDE, "put " + sheet + " " + want.length + " 0");
    }

    /** All that can be asked; what is asked last changes it. */
    private String all() {
        StringBuilder all = new StringBuilder();
        web(all);
        for (int sheet = 0; sheet < 4; sheet++) {
            all.append(" sheet ").append(answer("put " + sheet + " 40 0"));
            for (int i = 0; i < 40; i++) {
                long item = answer("item " + sheet + " " + i);
                if (item == NO) break;
                all.append(' ').append(item);
            }
            for (int sort = 0; sort < 3; sort++) all.append(answer("lay " + sheet + " " + sort) == UNLIKE ? 'n' : 'y');
        }
        all.append(" text ").append(answer("text"));
        web(all);
        all.append(" back ").append(answer("back"));
        web(all);
        return all.toString();
    }

    private void web(StringBuilder all) {
        for (int what = 0; what < 7; what++) all.append(' ').append(answer("count " + what));
        long nodes = answer("count 0");
        for (int node = 0; node < nodes; node++) {
            all.append(" [").append(line(node)).append(']');
            long rows = answer("of " + node + " 7");
            for (int row = 0; row < rows; row++) {
                for (int v = 0; v < 2; v++) all.append(' ').append(answer("cell " + node + " " + row + " " + v));
            }
        }
        all.append(" weight ").append(answer("weight"));
    }
}
