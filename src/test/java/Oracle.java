import java.math.BigInteger;
import java.util.ArrayList;
import java.util.Arrays;
import java.util.Comparator;
import java.util.List;
import java.util.Set;
import java.util.TreeSet;
import java.util.function.Predicate;
import java.util.regex.Matcher;
import java.util.regex.Pattern;
import java.util.stream.Collectors;

/** The same face as FindingsWeb, told from the document anew: by lists of all WORLDS, all WAYS, all pairs. */
public final class Oracle {
    private static final int NONE = -1, BAD = -2, STATE = -3, FULL = -4;
    private static final long NO = FindingsWeb.NO;
    private static final String[] KINDS = {"node", "most", "least", "sum"};

    private static final class Node {
        int size;
        int kind;
        List<Integer> parents = new ArrayList<>();
        List<int[]> rows = new ArrayList<>();
        Integer finding;
        Integer done;
        int[] hint;

        Node twin() {
            Node t = new Node();
            t.size = size;
            t.kind = kind;
            t.parents = new ArrayList<>(parents);
            for (int[] r : rows) t.rows.add(r.clone());
            t.finding = finding;
            t.done = done;
            t.hint = hint.clone();
            return t;
        }

        boolean hinted() {
            return Arrays.stream(hint).distinct().count() > 1;
        }
    }

    private List<Node> nodes = new ArrayList<>();
    private List<Node> kept;
    private StringBuilder tape = new StringBuilder();
    private final long[][] sheets = new long[4][];
    private final int[] sorts = new int[4];

    private static List<Node> twins(List<Node> some) {
        return some.stream().map(Node::twin).collect(Collectors.toList());
    }

    private boolean is(int node) {
        return node >= 0 && node < nodes.size();
    }

    private boolean is(int node, int v) {
        return is(node) && v >= 0 && v < nodes.get(node).size;
    }

    // ---- the web

    public int node(int size, int kind, int p, int q) {
        boolean sizes = size == 2 || size == 3;
        boolean ps = p == NONE || is(p);
        boolean qs = q == NONE || is(q) && p != NONE && p != q;
        if (!sizes || kind < 0 || kind > 3 || !ps || !qs || kind > 0 && p == NONE) return BAD;
        if (nodes.size() == 7) return FULL;
        Node n = new Node();
        n.size = size;
        n.kind = kind;
        if (p != NONE) n.parents.add(p);
        if (q != NONE) n.parents.add(q);
        int cases = 1;
        for (int parent : n.parents) cases *= nodes.get(parent).size;
        for (int i = 0; kind == 0 && i < cases; i++) {
            int[] r = new int[size];
            Arrays.fill(r, 12 / size);
            n.rows.add(r);
        }
        n.hint = new int[size];
        Arrays.fill(n.hint, 1);
        nodes.add(n);
        return nodes.size() - 1;
    }

    public int row(int node, int row, int a, int b, int c) {
        if (!is(node)) return BAD;
        Node n = nodes.get(node);
        if (n.kind != 0) return -13;
        if (row < 0 || row >= n.rows.size()) return -12;
        for (int number : new int[] {a, b, c}) if (number < 0 || number > 12) return BAD;
        if (a + b + c != 12 || n.size == 2 && c != 0) return BAD;
        n.rows.set(row, Arrays.copyOf(new int[] {a, b, c}, n.size));
        return 1;
    }

    public int told(int node, int v) {
        if (v == NONE ? !is(node) : !is(node, v)) return BAD;
        Integer was = nodes.get(node).finding;
        nodes.get(node).finding = v == NONE ? null : Integer.valueOf(v);
        return was == null ? NONE : was;
    }

    public int done(int node, int v) {
        if (v == NONE ? !is(node) : !is(node, v)) return BAD;
        Integer was = nodes.get(node).done;
        nodes.get(node).done = v == NONE ? null : Integer.valueOf(v);
        return was == null ? NONE : was;
    }

    public int hint(int node, int a, int b, int c) {
        if (!is(node)) return BAD;
        for (int number : new int[] {a, b, c}) if (number < 0 || number > 9) return BAD;
        boolean was = nodes.get(node).hinted();
        nodes.get(node).hint = Arrays.copyOf(new int[] {a, b, c}, nodes.get(node).size);
        return was ? 1 : 0;
    }

    public int feed(int letter) {
        if (letter < 0 || letter > 255) return BAD;
        if (tape.length() == 60) return FULL;
        return tape.append((char) letter).length();
    }

    private static final Pattern TOKEN = Pattern.compile("[a-z]+|[0-9]+|.", Pattern.DOTALL);
    private static final List<String> WORDS = List.of("node", "most", "least", "sum", "row", "told", "done", "hint");
    private static final int[] NEEDS = {3, 3, 3, 3, 5, 2, 2, 4};

    public int text() {
        String all = tape.toString();
        tape = new StringBuilder();
        List<String> tokens = new ArrayList<>();
        List<Integer> places = new ArrayList<>();
        Matcher m = TOKEN.matcher(all);
        while (m.find()) {
            if (m.group().equals(" ")) continue;
            tokens.add(m.group());
            places.add(m.start());
        }
        List<int[]> clauses = new ArrayList<>();
        int at = 0;
        while (true) {
            if (at == tokens.size()) return -100 - all.length();
            int word = WORDS.indexOf(tokens.get(at));
            if (word < 0) return -100 - places.get(at);
            int[] clause = new int[NEEDS[word] + 1];
            clause[0] = word;
            at++;
            for (int i = 1; i < clause.length; i++, at++) {
                if (at == tokens.size()) return -100 - all.length();
                if (!tokens.get(at).matches("[0-9]{1,2}")) return -100 - places.get(at);
                clause[i] = Integer.parseInt(tokens.get(at));
            }
            clauses.add(clause);
            if (at == tokens.size()) break;
            if (!tokens.get(at).equals(";")) return -100 - places.get(at);
            at++;
        }
        int count = 0;
        for (int[] c : clauses) if (clause(c) > BAD) count++;
        return count;
    }

    private int clause(int[] c) {
        switch (WORDS.get(c[0])) {
            case "row": return row(c[1], c[2], c[3], c[4], c[5]);
            case "told": return told(c[1], nine(c[2]));
            case "done": return done(c[1], nine(c[2]));
            case "hint": return hint(c[1], c[2], c[3], c[4]);
            default: return node(c[1], c[0], nine(c[2]), nine(c[3]));
        }
    }

    private static int nine(int number) {
        return number == 9 ? NONE : number;
    }

    public int of(int node, int what) {
        if (!is(node) || what < 0 || what > 7) return BAD;
        Node n = nodes.get(node);
        int[] all = {n.size, n.kind, n.parents.size() > 0 ? n.parents.get(0) : NONE, n.parents.size() > 1 ? n.parents.get(1) : NONE,
            n.finding == null ? NONE : n.finding, n.done == null ? NONE : n.done, n.hinted() ? 1 : 0, n.rows.size()};
        return all[what];
    }

    public int cell(int node, int row, int v) {
        if (!is(node)) return BAD;
        if (nodes.get(node).kind != 0) return -13;
        if (row < 0 || row >= nodes.get(node).rows.size()) return -12;
        return is(node, v) ? nodes.get(node).rows.get(row)[v] : BAD;
    }

    public int print(int node, int i) {
        if (!is(node)) return BAD;
        Node n = nodes.get(node);
        String line = node + "/" + n.size;
        if (n.kind > 0) line += " " + KINDS[n.kind];
        if (!n.parents.isEmpty()) line += " <" + n.parents.stream().map(String::valueOf).collect(Collectors.joining(","));
        if (n.finding != null) line += " told=" + n.finding;
        if (n.done != null) line += " done=" + n.done;
        if (n.hinted()) line += " hint " + Arrays.stream(n.hint).mapToObj(String::valueOf).collect(Collectors.joining(":"));
        if (i == NONE) return line.length();
        return i < 0 || i >= line.length() ? NONE : line.charAt(i);
    }

    // ---- odds

    private List<int[]> worlds() {
        List<int[]> all = List.of(new int[0]);
        for (Node n : nodes) {
            List<int[]> longer = new ArrayList<>();
            for (int[] w : all) {
                for (int v = 0; v < n.size; v++) {
                    int[] more = Arrays.copyOf(w, w.length + 1);
                    more[w.length] = v;
                    longer.add(more);
                }
            }
            all = longer;
        }
        return all;
    }

    private int number(int node, int[] world) {
        Node n = nodes.get(node);
        int own = world[node];
        if (n.done != null) return own == n.done ? 12 : 0;
        List<Integer> values = n.parents.stream().map(p -> world[p]).collect(Collectors.toList());
        int due;
        if (n.kind == 0) {
            int row = 0;
            for (int p : n.parents) row = row * nodes.get(p).size + world[p];
            return n.rows.get(row)[own];
        } else if (n.kind == 1) {
            due = Math.min(n.size - 1, values.stream().max(Comparator.naturalOrder()).get());
        } else if (n.kind == 2) {
            due = Math.min(n.size - 1, values.stream().min(Comparator.naturalOrder()).get());
        } else {
            due = values.stream().mapToInt(v -> v).sum() % n.size;
        }
        return own == due ? 12 : 0;
    }

    private BigInteger weigh(int[] world) {
        BigInteger weight = BigInteger.ONE;
        for (int i = 0; i < nodes.size(); i++) {
            Node n = nodes.get(i);
            int factor = n.finding != null && n.finding != world[i] ? 0 : number(i, world) * n.hint[world[i]];
            weight = weight.multiply(BigInteger.valueOf(factor));
        }
        return weight;
    }

    private BigInteger weigh(Predicate<int[]> which) {
        return worlds().stream().filter(which).map(this::weigh).reduce(BigInteger.ZERO, BigInteger::add);
    }

    private static long fraction(BigInteger above, BigInteger below, int line) {
        if (above.signum() == 0) return line;
        BigInteger common = above.gcd(below);
        return (line == 0 ? above : below).divide(common).longValueExact();
    }

    private long odds(Predicate<int[]> which, int line) {
        BigInteger all = weigh(w -> true);
        return all.signum() == 0 ? STATE : fraction(weigh(which), all, line);
    }

    private static boolean isLine(int line) {
        return line == 0 || line == 1;
    }

    public long weight() {
        return weigh(w -> true).longValueExact();
    }

    public long power(int n) {
        if (n < 0 || n > 9) return NO;
        BigInteger p = weigh(w -> true).pow(n);
        return p.bitLength() > 63 ? NO : p.longValueExact();
    }

    public long odds(int node, int v, int line) {
        return is(node, v) && isLine(line) ? odds(w -> w[node] == v, line) : NO;
    }

    public long both(int node, int v, int other, int w, int line) {
        if (!is(node, v) || !is(other, w) || !isLine(line)) return NO;
        return odds(world -> world[node] == v && world[other] == w, line);
    }

    private boolean wrongSheet(int sheet) {
        if (sheets[sheet].length != nodes.size()) return true;
        for (int i = 0; i < nodes.size(); i++) {
            long v = sheets[sheet][i];
            if (v != NONE && (v < 0 || v >= nodes.get(i).size)) return true;
        }
        return false;
    }

    public long shown(int sheet, int line) {
        if (sheet < 0 || sheet > 3 || !isLine(line) || sheets[sheet] == null || wrongSheet(sheet)) return NO;
        long[] want = sheets[sheet];
        return odds(w -> {
            for (int i = 0; i < w.length; i++) if (want[i] != NONE && want[i] != w[i]) return false;
            return true;
        }, line);
    }

    public long would(int other, int w, int node, int v, int line) {
        if (!is(other, w) || !is(node, v) || !isLine(line)) return NO;
        List<Node> truth = nodes;
        nodes = twins(truth);
        nodes.get(other).done = w;
        long answer = odds(world -> world[node] == v, line);
        nodes = truth;
        return answer;
    }

    public long without(int other, int node, int v, int line) {
        if (!is(other) || !is(node, v) || !isLine(line)) return NO;
        List<Node> truth = nodes;
        nodes = twins(truth);
        nodes.get(other).finding = null;
        if (nodes.get(other).hinted()) Arrays.fill(nodes.get(other).hint, 1);
        long answer = odds(world -> world[node] == v, line);
        nodes = truth;
        return answer;
    }

    private int[] likeliest() {
        int[] best = null;
        for (int[] w : worlds()) {
            if (weigh(w).signum() > 0 && (best == null || weigh(w).compareTo(weigh(best)) > 0)) best = w;
        }
        return best;
    }

    public int likely(int node) {
        if (!is(node)) return BAD;
        int[] best = likeliest();
        return best == null ? STATE : best[node];
    }

    // ---- who is cut off, what tells most

    private boolean heeds(int child, int parent) {
        return nodes.get(child).done == null && nodes.get(child).parents.contains(parent);
    }

    private void ways(List<Integer> begun, int goal, List<List<Integer>> found) {
        int last = begun.get(begun.size() - 1);
        if (last == goal) {
            found.add(begun);
            return;
        }
        for (int next = 0; next < nodes.size(); next++) {
            if (begun.contains(next) || !heeds(next, last) && !heeds(last, next)) continue;
            List<Integer> longer = new ArrayList<>(begun);
            longer.add(next);
            ways(longer, goal, found);
        }
    }

    private boolean evidence(int node) {
        if (nodes.get(node).finding != null || nodes.get(node).hinted()) return true;
        for (int i = 0; i < nodes.size(); i++) if (heeds(i, node) && evidence(i)) return true;
        return false;
    }

    private boolean open(List<Integer> way) {
        for (int i = 1; i + 1 < way.size(); i++) {
            int at = way.get(i);
            boolean meet = heeds(at, way.get(i - 1)) && heeds(at, way.get(i + 1));
            if (meet ? !evidence(at) : nodes.get(at).finding != null) return false;
        }
        return true;
    }

    public int apart(int node, int other) {
        if (!is(node) || !is(other) || node == other) return BAD;
        if (nodes.get(node).finding != null || nodes.get(other).finding != null) return 1;
        List<List<Integer>> found = new ArrayList<>();
        ways(List.of(node), other, found);
        return found.stream().anyMatch(this::open) ? 0 : 1;
    }

    private BigInteger telling(int h, int x) {
        BigInteger sum = BigInteger.ZERO;
        for (int a = 0; a < nodes.get(x).size; a++) {
            BigInteger most = BigInteger.ZERO;
            for (int b = 0; b < nodes.get(h).size; b++) {
                int vx = a;
                int vh = b;
                most = most.max(weigh(w -> w[x] == vx && w[h] == vh));
            }
            sum = sum.add(most);
        }
        return sum;
    }

    public long tells(int node, int other, int line) {
        if (!is(node) || !is(other) || node == other || !isLine(line)) return NO;
        BigInteger all = weigh(w -> true);
        return all.signum() == 0 ? STATE : fraction(telling(node, other), all, line);
    }

    public int telling(int node) {
        if (!is(node)) return BAD;
        if (weigh(w -> true).signum() == 0) return STATE;
        int best = NONE;
        for (int x = nodes.size() - 1; x >= 0; x--) {
            if (x == node || nodes.get(x).finding != null || nodes.get(x).done != null) continue;
            if (best == NONE || telling(node, x).compareTo(telling(node, best)) >= 0) best = x;
        }
        return best;
    }

    // ---- orders, clusters

    private Set<List<Integer>> pairs() {
        Set<List<Integer>> near = new java.util.HashSet<>();
        for (int i = 0; i < nodes.size(); i++) {
            if (nodes.get(i).done != null) continue;
            List<Integer> all = new ArrayList<>(nodes.get(i).parents);
            all.add(i);
            join(near, all);
        }
        return near;
    }

    private static void join(Set<List<Integer>> near, Iterable<Integer> all) {
        for (int a : all) for (int b : all) if (a < b) near.add(List.of(a, b));
    }

    private static Set<Integer> nearTo(Set<List<Integer>> near, int node) {
        Set<Integer> found = new TreeSet<>();
        for (List<Integer> pair : near) if (pair.contains(node)) found.add(pair.get(0) + pair.get(1) - node);
        return found;
    }

    private static int fill(Set<List<Integer>> near, int node) {
        int missing = 0;
        Set<Integer> others = nearTo(near, node);
        for (int a : others) for (int b : others) if (a < b && !near.contains(List.of(a, b))) missing++;
        return missing;
    }

    /** Of each NODE as it leaves: who, FILL, GROUP as bits; by least FILL, where no order is given. */
    private List<int[]> leaving(List<Integer> order) {
        Set<List<Integer>> near = pairs();
        Set<Integer> rest = new TreeSet<>();
        for (int i = 0; i < nodes.size(); i++) rest.add(i);
        List<int[]> found = new ArrayList<>();
        while (!rest.isEmpty()) {
            int next = order != null ? order.get(found.size())
                : rest.stream().min(Comparator.comparing(i -> fill(near, i))).get();
            Set<Integer> others = nearTo(near, next);
            int bits = 1 << next;
            for (int o : others) bits |= 1 << o;
            found.add(new int[] {next, fill(near, next), bits});
            join(near, others);
            near.removeIf(pair -> pair.contains(next));
            rest.remove(next);
        }
        return found;
    }

    public int leaves(int k, int what) {
        if (what < 0 || what > 3) return BAD;
        if (k < 0 || k >= nodes.size()) return -12;
        int[] one = leaving(null).get(k);
        return what == 2 ? Integer.bitCount(one[2]) - 1 : one[what == 3 ? 2 : what];
    }

    public int cluster(int k, int what) {
        if (what < 0 || what > 2) return BAD;
        List<Integer> clusters = new ArrayList<>();
        for (int[] one : leaving(null)) {
            if (clusters.stream().noneMatch(c -> (c | one[2]) == c)) clusters.add(one[2]);
        }
        if (k == NONE) return clusters.size();
        if (k < 0 || k >= clusters.size()) return -12;
        int[] joined = new int[clusters.size()];
        Arrays.fill(joined, NONE);
        Set<Integer> in = new TreeSet<>(Set.of(0));
        while (in.size() < clusters.size()) {
            List<int[]> choices = new ArrayList<>();
            for (int i = 0; i < clusters.size(); i++) {
                for (int j : in) if (!in.contains(i)) choices.add(new int[] {i, j});
            }
            choices.sort(Comparator.<int[]>comparingInt(c -> -Integer.bitCount(clusters.get(c[0]) & clusters.get(c[1])))
                .thenComparingInt(c -> c[0]).thenComparingInt(c -> c[1]));
            joined[choices.get(0)[0]] = choices.get(0)[1];
            in.add(choices.get(0)[0]);
        }
        if (what == 0) return clusters.get(k);
        if (what == 1) return joined[k];
        return k == 0 ? 0 : clusters.get(k) & clusters.get(joined[k]);
    }

    public int cost(int sheet) {
        List<Integer> order = null;
        if (sheet != NONE) {
            if (sheet < 0 || sheet > 3) return BAD;
            if (sheets[sheet] == null) return -11;
            Set<Long> seen = new TreeSet<>();
            order = new ArrayList<>();
            for (long v : sheets[sheet]) {
                if (v < 0 || v >= nodes.size() || !seen.add(v)) return STATE;
                order.add((int) v);
            }
            if (order.size() != nodes.size()) return STATE;
        }
        int sum = 0;
        for (int[] one : leaving(order)) {
            int product = 1;
            for (int i = 0; i < nodes.size(); i++) if ((one[2] >> i & 1) == 1) product *= nodes.get(i).size;
            sum += product;
        }
        return sum;
    }

    // ---- draws, sheets, the image

    private int[] draw(int seed) {
        int[] world = new int[nodes.size()];
        int z = seed;
        for (int i = 0; i < world.length; i++) {
            z = z * 1103515245 + 12345;
            int mark = (z >>> 9) % 12;
            int sum = 0;
            for (world[i] = 0; world[i] < nodes.get(i).size; world[i]++) {
                sum += number(i, world);
                if (sum > mark) break;
            }
            if (nodes.get(i).done != null) world[i] = nodes.get(i).done;
        }
        return world;
    }

    public int drawn(int seed, int node) {
        return is(node) ? draw(seed)[node] : BAD;
    }

    public int chance(int seed, int m, int node, int v, int line) {
        if (m < 1 || m > 8 || !is(node, v) || !isLine(line)) return BAD;
        List<int[]> fit = new ArrayList<>();
        for (int i = 0; i < m; i++) {
            int[] w = draw(seed + i);
            boolean fits = true;
            for (int k = 0; k < w.length; k++) fits &= nodes.get(k).finding == null || nodes.get(k).finding == w[k];
            if (fits) fit.add(w);
        }
        if (fit.isEmpty()) return STATE;
        long hits = fit.stream().filter(w -> w[node] == v).count();
        return (int) fraction(BigInteger.valueOf(hits), BigInteger.valueOf(fit.size()), line);
    }

    public int film(int sheet) {
        if (sheet < 0 || sheet > 3) return BAD;
        int[] best = likeliest();
        if (best == null) return STATE;
        sorts[sheet] = 1;
        sheets[sheet] = Arrays.stream(best).asLongStream().toArray();
        return best.length;
    }

    public int lay(int sheet, int sort) {
        if (sheet < 0 || sheet > 3 || sort < 0 || sort > 2) return BAD;
        if (sheets[sheet] == null) return -11;
        if (sorts[sheet] != sort) return -13;
        if (wrongSheet(sheet)) return STATE;
        for (int i = 0; i < nodes.size(); i++) {
            nodes.get(i).finding = sheets[sheet][i] == NONE ? null : Integer.valueOf((int) sheets[sheet][i]);
        }
        return count(1);
    }

    public int image() {
        kept = twins(nodes);
        return nodes.size();
    }

    public int back() {
        if (kept == null) return STATE;
        nodes = twins(kept);
        return nodes.size();
    }

    public int count(int what) {
        switch (what) {
            case 0: return nodes.size();
            case 1: return (int) nodes.stream().filter(n -> n.finding != null).count();
            case 2: return (int) nodes.stream().filter(n -> n.done != null).count();
            case 3: return (int) nodes.stream().filter(Node::hinted).count();
            case 4: return tape.length();
            case 5: return pairs().size();
            case 6: return worlds().size();
            default: return BAD;
        }
    }

    // ---- the host

    public int sheet(int sheet, int sort, int n) {
        if (sheet < 0 || sheet > 3 || sort < -1 || sort > 2) return BAD;
        if (sort == -1) {
            sheets[sheet] = null;
            return 1;
        }
        if (n > 40) return BAD;
        if (n < 0) return -14;
        sheets[sheet] = new long[n];
        sorts[sheet] = sort;
        return 1;
    }

    public int put(int sheet, int i, long v) {
        if (sheet < 0 || sheet > 3) return BAD;
        if (sheets[sheet] == null) return -11;
        if (i < 0 || i >= sheets[sheet].length) return -12;
        int unused = new int[] {0, 32, 56}[sorts[sheet]];
        sheets[sheet][i] = v << unused >> unused;
        return 1;
    }

    public long item(int sheet, int i) {
        if (sheet < 0 || sheet > 3 || sheets[sheet] == null || i < 0 || i >= sheets[sheet].length) return NO;
        return sheets[sheet][i];
    }

    public int copy(int sheet, int i, int other, int j, int n) {
        if (sheet < 0 || sheet > 3 || other < 0 || other > 3) return BAD;
        if (sheets[sheet] == null || sheets[other] == null) return -11;
        if (sorts[sheet] != sorts[other]) return -13;
        boolean inside = i >= 0 && j >= 0 && n >= 0 && (long) i + n <= sheets[sheet].length && (long) j + n <= sheets[other].length;
        if (!inside) return -12;
        long[] were = sheets[sheet].clone();
        for (int k = 0; k < n; k++) sheets[other][j + k] = were[i + k];
        return n;
    }
}
