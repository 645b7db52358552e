import java.util.ArrayList;
import java.util.EnumSet;
import java.util.List;
import java.util.Set;
import java.util.TreeSet;

/**
 * "Nothing is promised beyond the answers and state changes described above" (Not promised): each call changes what its
 * promise says, and nothing else; those that only answer change nothing.
 */
public final class ChangesTest {
    /** All that a call may change. */
    private enum Part { NODES, ROWS, FINDINGS, DONE, HINTS, TAPE, SHEET_0, SHEET_1, SHEET_2, SHEET_3, IMAGE }

    private interface Call {
        long on(FindingsWeb x);
    }

    private static final int NODES = 4, NONE = FindingsWeb.NONE, UNLIKE = -13;
    private static final Set<String> TRIED = new TreeSet<>();

    public static void main(String[] args) {
        theWeb();
        odds();
        others();
        sheets();
        for (java.lang.reflect.Method m : FindingsWeb.class.getDeclaredMethods()) {
            if (!java.lang.reflect.Modifier.isPublic(m.getModifiers())) continue;
            Check.that(m.getName() + " is tried", TRIED.contains(m.getName()));
        }
        Check.end("ChangesTest");
    }

    /** NODES, an IMAGE of them as they were, all that can be told, a TAPE, SHEETS of each sort. */
    private static FindingsWeb full() {
        FindingsWeb x = Check.web("node 2 9 9;node 3 0 9;row 0 0 3 9 0;row 1 1 1 2 9", "told 0 1;hint 1 2 1 3");
        x.image();
        Check.read(x, "told 0 9;most 3 0 1;node 2 2 0;row 3 5 4 8 0;told 2 2");
        Check.read(x, "row 1 0 5 4 3;hint 1 4 4 4;hint 3 1 2 0;done 3 1");
        for (char c : "told 0 0;done 1 2".toCharArray()) x.feed(c);
        Check.fill(x, 0, 0, 1, 0, 2, 1);
        Check.fill(x, 1, 1, -1, 2, 2, -1);
        Check.fill(x, 2, 1, 3, 2, 1, 0);
        return x;
    }

    private static void changes(String name, Call call, Part... parts) {
        TRIED.add(name);
        EnumSet<Part> changed = EnumSet.noneOf(Part.class);
        for (Part p : Part.values()) {
            FindingsWeb x = full();
            call.on(x);
            if (!told(x, p).equals(told(full(), p))) changed.add(p);
        }
        EnumSet<Part> want = EnumSet.noneOf(Part.class);
        want.addAll(List.of(parts));
        Check.that(name + " changes " + changed + ", due is " + want, changed.equals(want));
    }

    /** What an object answers about a part of it; the object is of no use then. */
    private static String told(FindingsWeb x, Part p) {
        switch (p) {
            case NODES: return x.count(0) + " " + of(x, 0) + of(x, 1) + of(x, 2) + of(x, 3);
            case ROWS: return rows(x);
            case FINDINGS: return of(x, 4).toString();
            case DONE: return of(x, 5).toString();
            case HINTS: return hints(x);
            case TAPE: return x.count(4) + " " + x.text() + " " + x.of(0, 4) + " " + x.of(1, 5);
            case IMAGE: return x.back() + " " + of(x, 0) + rows(x) + of(x, 4) + of(x, 5) + hints(x);
            default: return sheet(x, p.ordinal() - Part.SHEET_0.ordinal());
        }
    }

    private static List<Integer> of(FindingsWeb x, int what) {
        List<Integer> all = new ArrayList<>();
        for (int node = 0; node < NODES; node++) all.add(x.of(node, what));
        return all;
    }

    private static String rows(FindingsWeb x) {
        StringBuilder all = new StringBuilder();
        for (int node = 0; node < NODES; node++) {
            for (int row = 0; row < 9; row++) {
                for (int v = 0; v < 3; v++) all.append(x.cell(node, row, v)).append(' ');
            }
        }
        return all.toString();
    }

    /** Each number of each HINT, also of those that aren't HINTED: the WEIGHT, where all others are DONE to 0. */
    private static String hints(FindingsWeb x) {
        StringBuilder all = new StringBuilder();
        int nodes = x.count(0);
        for (int node = 0; node < nodes; node++) x.told(node, NONE);
        for (int node = 0; node < nodes && node < NODES; node++) {
            for (int v = 0; v < x.of(node, 0); v++) {
                for (int i = 0; i < nodes; i++) x.done(i, i == node ? v : 0);
                all.append(x.weight() / Math.round(Math.pow(12, nodes))).append(' ');
            }
        }
        return all.toString();
    }

    private static String sheet(FindingsWeb x, int sheet) {
        StringBuilder all = new StringBuilder();
        all.append(x.put(sheet, 40, 0));
        for (int i = 0; i < 40; i++) all.append(' ').append(x.item(sheet, i));
        for (int sort = 0; sort < 3; sort++) all.append(x.lay(sheet, sort) == UNLIKE ? 'n' : 'y');
        return all.toString();
    }

    private static void theWeb() {
        changes("node", x -> x.node(2, 0, 1, 0), Part.NODES);
        changes("row", x -> x.row(1, 1, 4, 4, 4), Part.ROWS);
        changes("told", x -> x.told(3, 0), Part.FINDINGS);
        changes("done", x -> x.done(1, 1), Part.DONE);
        changes("hint", x -> x.hint(0, 5, 5, 5), Part.HINTS);
        changes("feed", x -> x.feed(' '), Part.TAPE);
        changes("text", x -> x.text(), Part.FINDINGS, Part.DONE, Part.TAPE);
        changes("of", x -> x.of(1, 4) + x.of(2, 5) + x.of(3, 6) + x.of(0, 7));
        changes("cell", x -> x.cell(1, 1, 2));
        changes("print", x -> x.print(3, NONE) + x.print(1, 3));
    }

    private static void odds() {
        changes("weight", x -> x.weight());
        changes("power", x -> x.power(2));
        changes("odds", x -> x.odds(0, 1, 0) + x.odds(3, 0, 1));
        changes("both", x -> x.both(0, 1, 2, 2, 0) + x.both(1, 1, 1, 0, 1));
        changes("shown", x -> x.shown(0, 0) + x.shown(1, 1));
        changes("would", x -> x.would(0, 1, 2, 2, 0) + x.would(3, 0, 3, 0, 1));
        changes("without", x -> x.without(2, 0, 0, 0) + x.without(3, 3, 1, 1));
        changes("likely", x -> x.likely(2));
    }

    private static void others() {
        changes("apart", x -> x.apart(0, 1) + x.apart(3, 1));
        changes("tells", x -> x.tells(0, 1, 0) + x.tells(2, 0, 1));
        changes("telling", x -> x.telling(0));
        changes("leaves", x -> x.leaves(3, 0) + x.leaves(0, 3));
        changes("cluster", x -> x.cluster(NONE, 0) + x.cluster(1, 2));
        changes("cost", x -> x.cost(NONE) + x.cost(2));
        changes("drawn", x -> x.drawn(5, 2));
        changes("chance", x -> x.chance(5, 8, 1, 0, 0));
        changes("count", x -> x.count(1) + x.count(5) + x.count(6));
        changes("image", x -> x.image(), Part.IMAGE);
        changes("back", x -> x.back(), Part.NODES, Part.ROWS, Part.FINDINGS, Part.DONE, Part.HINTS);
    }

    private static void sheets() {
        changes("film", x -> x.film(0), Part.SHEET_0);
        changes("film", x -> x.film(3), Part.SHEET_3);
        changes("lay", x -> x.lay(1, 1), Part.FINDINGS);
        changes("sheet", x -> x.sheet(0, 1, 4), Part.SHEET_0);
        changes("sheet", x -> x.sheet(1, NONE, 4), Part.SHEET_1);
        changes("sheet", x -> x.sheet(3, 2, 0), Part.SHEET_3);
        changes("put", x -> x.put(2, 0, 2), Part.SHEET_2);
        changes("item", x -> x.item(2, 0) + x.item(3, 0));
        changes("copy", x -> x.copy(1, 1, 2, 0, 3), Part.SHEET_2);
        changes("copy", x -> x.copy(0, 0, 0, 1, 2), Part.SHEET_0);
    }
}
