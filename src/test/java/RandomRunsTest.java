import java.lang.reflect.Method;
import java.lang.reflect.Parameter;
import java.util.ArrayList;
import java.util.Arrays;
import java.util.Comparator;
import java.util.List;
import java.util.Random;

/** Runs of calls by chance, the same ones each time: each answer must be Oracle's. */
public final class RandomRunsTest {
    private static final int RUNS = 1500;
    private static final int CALLS = 90;

    private final Random chance;
    private final FindingsWeb x = new FindingsWeb();
    private final Oracle due = new Oracle();
    private final List<String> calls = new ArrayList<>();

    private RandomRunsTest(int run) {
        chance = new Random(run);
    }

    public static void main(String[] args) throws ReflectiveOperationException {
        int runs = args.length > 0 ? Integer.parseInt(args[0]) : RUNS;
        for (int run = 0; run < runs; run++) {
            if (!new RandomRunsTest(run).runs()) break;
        }
        Check.end("RandomRunsTest");
    }

    private static final List<Method> METHODS = methods();

    private static List<Method> methods() {
        List<Method> found = new ArrayList<>();
        for (Method m : FindingsWeb.class.getDeclaredMethods()) {
            if (java.lang.reflect.Modifier.isPublic(m.getModifiers())) found.add(m);
        }
        // reflection tells no order of its own, and runs must be the same ones each time
        found.sort(Comparator.comparing(Method::getName));
        return found;
    }

    private boolean runs() throws ReflectiveOperationException {
        setUp();
        for (int i = 0; i < CALLS; i++) {
            if (chance.nextInt(12) == 0) {
                if (!text()) return false;
            } else if (chance.nextInt(6) == 0) {
                if (!sheetOfValues()) return false;
            } else if (!call(METHODS.get(chance.nextInt(METHODS.size())))) {
                return false;
            }
        }
        return allIsTheSame();
    }

    private void setUp() throws ReflectiveOperationException {
        int nodes = chance.nextInt(8);
        for (int i = 0; i < nodes; i++) {
            int p = i == 0 || chance.nextInt(4) == 0 ? -1 : chance.nextInt(i);
            int q = p < 0 || i < 2 || chance.nextInt(3) == 0 ? -1 : chance.nextInt(i);
            if (q == p) q = -1;
            int kind = p < 0 || chance.nextInt(3) > 0 ? 0 : 1 + chance.nextInt(3);
            call("node", 2 + chance.nextInt(2), kind, p, q);
            for (int row = 0; row < x.of(i, 7); row++) {
                int a = chance.nextInt(13);
                int b = x.of(i, 0) == 2 ? 12 - a : chance.nextInt(13 - a);
                call("row", i, row, a, b, 12 - a - b);
            }
            if (chance.nextInt(4) == 0) call("told", i, chance.nextInt(3));
            if (chance.nextInt(6) == 0) call("done", i, chance.nextInt(3));
            if (chance.nextInt(4) == 0) call("hint", i, chance.nextInt(4), chance.nextInt(4), chance.nextInt(4));
        }
    }

    private boolean call(String name, Object... numbers) throws ReflectiveOperationException {
        for (Method m : METHODS) if (m.getName().equals(name)) return call(m, numbers);
        throw new IllegalArgumentException(name);
    }

    private boolean call(Method m) throws ReflectiveOperationException {
        Parameter[] parameters = m.getParameters();
        Object[] numbers = new Object[parameters.length];
        for (int i = 0; i < numbers.length; i++) {
            if (parameters[i].getType() == long.class) numbers[i] = longByChance();
            else numbers[i] = intByChance(m.getName(), parameters[i].getName());
        }
        return call(m, numbers);
    }

    private boolean call(Method m, Object... numbers) throws ReflectiveOperationException {
        Method same = Oracle.class.getMethod(m.getName(), m.getParameterTypes());
        calls.add(m.getName() + Arrays.toString(numbers));
        long got = ((Number) m.invoke(x, numbers)).longValue();
        long want = ((Number) same.invoke(due, numbers)).longValue();
        Check.due(m.getName(), got, want);
        if (got != want) System.out.println(String.join("\n", calls));
        return got == want;
    }

    private long longByChance() {
        switch (chance.nextInt(6)) {
            case 0: return chance.nextLong();
            case 1: return (1L << 32) + chance.nextInt(3);
            case 2: return 253 + chance.nextInt(5);
            default: return chance.nextInt(9) - 1;
        }
    }

    private int intByChance(String name, String parameter) {
        if (chance.nextInt(60) == 0) return chance.nextInt();
        switch (parameter) {
            case "node": case "other": case "p": case "q":
                return name.equals("copy") ? near(4) : near(Math.max(1, x.count(0)));
            case "size": return 1 + chance.nextInt(4);
            case "kind": return near(4);
            case "row": return near(5);
            case "v": case "w": return near(3);
            case "a": case "b": case "c": return near(name.equals("row") ? 13 : 10);
            case "letter": return chance.nextInt(258) - 1;
            case "what": return near(8);
            case "line": case "sort": return near(parameter.equals("sort") ? 3 : 2);
            case "sheet": return near(4);
            case "seed": return chance.nextInt();
            case "m": return near(10);
            case "i": case "j": return name.equals("print") ? near(24) : near(8);
            case "k": return near(8);
            case "n": return name.equals("sheet") && chance.nextInt(4) == 0 ? near(42) : near(9);
            default: throw new IllegalArgumentException(parameter);
        }
    }

    /** 0 .. bound - 1, and now and then one place outside. */
    private int near(int bound) {
        return chance.nextInt(10) == 0 ? (chance.nextBoolean() ? -1 : bound) : chance.nextInt(bound);
    }

    /** A SHEET that fits the NODES, for shown, lay and cost; what it tells may yet be wrong. */
    private boolean sheetOfValues() throws ReflectiveOperationException {
        int nodes = x.count(0);
        int sheet = chance.nextInt(4);
        int sort = chance.nextInt(3);
        if (!call("sheet", sheet, sort, nodes)) return false;
        boolean order = chance.nextInt(3) == 0;
        List<Integer> left = new ArrayList<>();
        for (int i = 0; i < nodes; i++) left.add(i);
        for (int i = 0; i < nodes; i++) {
            long v = order ? left.remove(chance.nextInt(left.size())) : chance.nextInt(3) - 1;
            if (!call("put", sheet, i, v)) return false;
        }
        boolean same = call("cost", sheet) && call("shown", sheet, 0) && call("shown", sheet, 1);
        return same && (chance.nextInt(3) > 0 || call("lay", sheet, sort));
    }

    private static final String[] WORDS = {"node", "most", "least", "sum", "row", "told", "done", "hint"};
    private static final int[] NEEDS = {3, 3, 3, 3, 5, 2, 2, 4};
    private static final String BYTES = "node 29;12 sumA\u00e9\n";

    private boolean text() throws ReflectiveOperationException {
        StringBuilder text = new StringBuilder();
        int clauses = 1 + chance.nextInt(4);
        for (int i = 0; i < clauses; i++) {
            int word = chance.nextInt(8);
            if (i > 0) text.append(chance.nextBoolean() ? ";" : " ; ");
            text.append(WORDS[word]);
            for (int k = 0; k < NEEDS[word]; k++) {
                text.append(k == 0 && chance.nextInt(5) == 0 ? "" : " ").append(chance.nextInt(10) == 0 ? "0" : "");
                text.append(chance.nextInt(3) == 0 ? 9 : chance.nextInt(chance.nextInt(5) == 0 ? 13 : 4));
            }
        }
        for (int i = chance.nextInt(3); i > 0; i--) {
            int at = chance.nextInt(text.length());
            char other = BYTES.charAt(chance.nextInt(BYTES.length()));
            if (chance.nextBoolean()) text.setCharAt(at, other);
            else if (chance.nextBoolean()) text.insert(at, other);
            else if (text.length() > 1) text.deleteCharAt(at);
        }
        for (int i = 0; i < text.length(); i++) if (!call("feed", (int) text.charAt(i))) return false;
        return call("text");
    }

    private boolean allIsTheSame() throws ReflectiveOperationException {
        for (int node = 0; node < x.count(0); node++) {
            for (int what = 0; what < 8; what++) if (!call("of", node, what)) return false;
            for (int row = 0; row < 9; row++) {
                for (int v = 0; v < 3; v++) if (!call("cell", node, row, v)) return false;
            }
            for (int i = -1; i < x.print(node, -1); i++) if (!call("print", node, i)) return false;
        }
        for (int sheet = 0; sheet < 4; sheet++) {
            for (int i = 0; i < 40; i++) if (!call("item", sheet, i)) return false;
        }
        return true;
    }
}
