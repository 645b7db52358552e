import java.util.Arrays;

/** A web of evidence, as ../shared/DOC.md promises it; the names in capital letters are told there. */
public final class FindingsWeb {
    public static final int NONE = -1, BAD = -2, STATE = -3, FULL = -4;
    public static final long NO = -4611686018427387904L;

    private static final int MISSING = -11, OUTSIDE = -12, UNLIKE = -13, BELOW_NOTHING = -14;
    private static final int FAULT = -100;

    private static final int NODES = 7, VALUES = 3, ROWS = 9, WHOLE = 12;
    private static final int TABLE = 0, MOST = 1, LEAST = 2, SUM = 3;
    private static final int HINTS = 9, POWERS = 9, SEEDS = 8;
    private static final int SHEETS = 4, ITEMS = 40, LONGS = 0, INTS = 1, BYTES = 2;
    private static final int TAPE = 60, BYTE = 255, NUMBERS = 5, NINE = 9;
    private static final int GREAT = 1000;
    private static final long GREATEST_LONG = 9223372036854775807L;

    private final Web web = new Web();
    private final Web kept = new Web();
    private final Web thought = new Web();
    private boolean hasImage;
    private final Worlds worlds = new Worlds();
    private final Leaving leaving = new Leaving();
    private final Tree tree = new Tree();
    private final Tape tape = new Tape();
    private final StringBuilder letters = new StringBuilder();
    private final Sheet[] sheets = new Sheet[SHEETS];

    public FindingsWeb() {
        for (int i = 0; i < SHEETS; i++) sheets[i] = new Sheet();
    }

    // ---- the web

    public int node(int size, int kind, int p, int q) {
        if (size < 2 || size > VALUES || kind < TABLE || kind > SUM) return BAD;
        if (!web.hasOrNone(p) || !web.hasOrNone(q)) return BAD;
        if (q != NONE && (p == NONE || p == q)) return BAD;
        if (kind != TABLE && p == NONE) return BAD;
        if (web.size >= NODES) return FULL;
        return web.add(size, kind, p, q);
    }

    public int row(int node, int row, int a, int b, int c) {
        if (!web.has(node)) return BAD;
        Node n = web.nodes[node];
        if (n.kind != TABLE) return UNLIKE;
        if (row < 0 || row >= n.rows) return OUTSIDE;
        if (!isTwelfths(a) || !isTwelfths(b) || !isTwelfths(c) || a + b + c != WHOLE) return BAD;
        if (n.size == 2 && c != 0) return BAD;
        n.setRow(row, a, b, c);
        return 1;
    }

    public int told(int node, int v) {
        if (!web.has(node)) return BAD;
        Node n = web.nodes[node];
        if (!n.hasOrNone(v)) return BAD;
        int was = n.finding;
        n.finding = v;
        return was;
    }

    public int done(int node, int v) {
        if (!web.has(node)) return BAD;
        Node n = web.nodes[node];
        if (!n.hasOrNone(v)) return BAD;
        int was = n.doneTo;
        n.doneTo = v;
        return was;
    }

    public int hint(int node, int a, int b, int c) {
        if (!web.has(node) || !isHint(a) || !isHint(b) || !isHint(c)) return BAD;
        Node n = web.nodes[node];
        int was = n.isHinted() ? 1 : 0;
        n.setHints(a, b, c);
        return was;
    }

    public int feed(int letter) {
        if (letter < 0 || letter > BYTE) return BAD;
        if (tape.size >= TAPE) return FULL;
        tape.add(letter);
        return tape.size;
    }

    public int text() {
        int answer = 0;
        int fault = tape.findFault();
        if (fault != NONE) {
            answer = FAULT - fault;
        } else {
            tape.at = 0;
            for (int i = 0; i <= TAPE && tape.readClause(); i++) {
                // NONE is no refusal: told and done answer it, where there was none
                if (doClause(tape.word, tape.numbers) >= NONE) answer++;
            }
        }
        tape.size = 0;
        return answer;
    }

    public int of(int node, int what) {
        if (!web.has(node)) return BAD;
        Node n = web.nodes[node];
        switch (what) {
            case 0: return n.size;
            case 1: return n.kind;
            case 2: return n.p;
            case 3: return n.q;
            case 4: return n.finding;
            case 5: return n.doneTo;
            case 6: return n.isHinted() ? 1 : 0;
            case 7: return n.kind == TABLE ? n.rows : 0;
            default: return BAD;
        }
    }

    public int cell(int node, int row, int v) {
        if (!web.has(node)) return BAD;
        Node n = web.nodes[node];
        if (n.kind != TABLE) return UNLIKE;
        if (row < 0 || row >= n.rows) return OUTSIDE;
        if (!n.has(v)) return BAD;
        return n.cells[row * VALUES + v];
    }

    public int print(int node, int i) {
        if (!web.has(node)) return BAD;
        letters.setLength(0);
        web.nodes[node].printTo(letters, node);
        if (i == NONE) return letters.length();
        return i >= 0 && i < letters.length() ? letters.charAt(i) : NONE;
    }

    // ---- odds

    public long weight() {
        return worlds.weighAll(web);
    }

    public long power(int n) {
        if (n < 0 || n > POWERS) return NO;
        long all = worlds.weighAll(web);
        long made = 1;
        for (int i = 0; i < n; i++) {
            if (all > 0 && made > GREATEST_LONG / all) return NO;
            made *= all;
        }
        return made;
    }

    public long odds(int node, int v, int line) {
        if (!web.hasValue(node, v) || !isLine(line)) return NO;
        return oddsIn(web, node, v, line);
    }

    public long both(int node, int v, int other, int w, int line) {
        if (!web.hasValue(node, v) || !web.hasValue(other, w) || !isLine(line)) return NO;
        return fraction(worlds.weighBoth(web, node, v, other, w), worlds.weighAll(web), line);
    }

    public long shown(int sheet, int line) {
        if (!isSheet(sheet) || !isLine(line)) return NO;
        Sheet s = sheets[sheet];
        if (s.isMissing() || !tellsValues(s)) return NO;
        long all = worlds.weighAll(web);
        for (int i = 0; i < web.size; i++) worlds.wanted[i] = (int) s.items[i];
        return fraction(worlds.weighWanted(web), all, line);
    }

    public long would(int other, int w, int node, int v, int line) {
        if (!web.hasValue(other, w) || !web.hasValue(node, v) || !isLine(line)) return NO;
        thought.become(web);
        thought.nodes[other].doneTo = w;
        return oddsIn(thought, node, v, line);
    }

    public long without(int other, int node, int v, int line) {
        if (!web.has(other) || !web.hasValue(node, v) || !isLine(line)) return NO;
        thought.become(web);
        Node n = thought.nodes[other];
        n.finding = NONE;
        if (n.isHinted()) n.setHints(1, 1, 1);
        return oddsIn(thought, node, v, line);
    }

    public int likely(int node) {
        if (!web.has(node)) return BAD;
        return worlds.findLikeliest(web) ? worlds.likeliest[node] : STATE;
    }

    // ---- who is cut off, what tells most

    public int apart(int node, int other) {
        if (!web.has(node) || !web.has(other) || node == other) return BAD;
        if (web.nodes[node].finding != NONE || web.nodes[other].finding != NONE) return 1;
        return Way.leads(web, node, other) ? 0 : 1;
    }

    public long tells(int node, int other, int line) {
        if (!web.has(node) || !web.has(other) || node == other || !isLine(line)) return NO;
        return fraction(worlds.weighGuesses(web, node, other), worlds.weighAll(web), line);
    }

    public int telling(int node) {
        if (!web.has(node)) return BAD;
        if (worlds.weighAll(web) == 0) return STATE;
        int best = NONE;
        long most = NONE;
        for (int x = 0; x < web.size; x++) {
            Node n = web.nodes[x];
            if (x == node || n.finding != NONE || n.doneTo != NONE) continue;
            long guesses = worlds.weighGuesses(web, node, x);
            if (guesses > most) {
                most = guesses;
                best = x;
            }
        }
        return best;
    }

    // ---- orders, clusters

    public int leaves(int k, int what) {
        if (what < 0 || what > 3) return BAD;
        if (k < 0 || k >= web.size) return OUTSIDE;
        leaving.leaveByLeastFill(web);
        switch (what) {
            case 0: return leaving.order[k];
            case 1: return leaving.fills[k];
            case 2: return Integer.bitCount(leaving.groups[k]) - 1;
            default: return leaving.groups[k];
        }
    }

    public int cluster(int k, int what) {
        if (what < 0 || what > 2) return BAD;
        leaving.leaveByLeastFill(web);
        tree.grow(leaving, web.size);
        if (k == NONE) return tree.size;
        if (k < 0 || k >= tree.size) return OUTSIDE;
        switch (what) {
            case 0: return tree.clusters[k];
            case 1: return tree.joined[k];
            default: return tree.common[k];
        }
    }

    public int cost(int sheet) {
        if (sheet == NONE) {
            leaving.leaveByLeastFill(web);
            return leaving.costOf(web);
        }
        if (!isSheet(sheet)) return BAD;
        Sheet s = sheets[sheet];
        if (s.isMissing()) return MISSING;
        if (!tellsEachNodeOnce(s)) return STATE;
        leaving.begin(web);
        for (int k = 0; k < web.size; k++) leaving.leave(k, (int) s.items[k]);
        return leaving.costOf(web);
    }

    // ---- draws, sheets, the image

    public int drawn(int seed, int node) {
        if (!web.has(node)) return BAD;
        worlds.draw(web, seed);
        return worlds.world[node];
    }

    public int chance(int seed, int m, int node, int v, int line) {
        if (m < 1 || m > SEEDS || !web.hasValue(node, v) || !isLine(line)) return BAD;
        int fit = 0;
        int hits = 0;
        for (int i = 0; i < m; i++) {
            worlds.draw(web, seed + i);
            if (!worlds.fitsFindings(web)) continue;
            fit++;
            if (worlds.world[node] == v) hits++;
        }
        return (int) fraction(hits, fit, line);
    }

    public int film(int sheet) {
        if (!isSheet(sheet)) return BAD;
        if (!worlds.findLikeliest(web)) return STATE;
        Sheet s = sheets[sheet];
        s.become(INTS, web.size);
        for (int i = 0; i < web.size; i++) s.set(i, worlds.likeliest[i]);
        return web.size;
    }

    public int lay(int sheet, int sort) {
        if (!isSheet(sheet) || !isSort(sort)) return BAD;
        Sheet s = sheets[sheet];
        if (!s.isMissing() && s.sort != sort) return UNLIKE;
        if (s.isMissing()) return MISSING;
        if (!tellsValues(s)) return STATE;
        for (int i = 0; i < web.size; i++) web.nodes[i].finding = (int) s.items[i];
        return web.countFindings();
    }

    public int image() {
        kept.become(web);
        hasImage = true;
        return web.size;
    }

    public int back() {
        if (!hasImage) return STATE;
        web.become(kept);
        return web.size;
    }

    public int count(int what) {
        switch (what) {
            case 0: return web.size;
            case 1: return web.countFindings();
            case 2: return web.countDone();
            case 3: return web.countHinted();
            case 4: return tape.size;
            case 5: return leaving.countNear(web);
            case 6: return web.countWorlds();
            default: return BAD;
        }
    }

    // ---- the host

    public int sheet(int sheet, int sort, int n) {
        if (!isSheet(sheet) || sort != NONE && !isSort(sort)) return BAD;
        if (sort != NONE && n > ITEMS) return BAD;
        if (sort != NONE && n < 0) return BELOW_NOTHING;
        sheets[sheet].become(sort, sort == NONE ? 0 : n);
        return 1;
    }

    public int put(int sheet, int i, long v) {
        if (!isSheet(sheet)) return BAD;
        Sheet s = sheets[sheet];
        if (s.isMissing()) return MISSING;
        if (!s.has(i)) return OUTSIDE;
        s.set(i, v);
        return 1;
    }

    public long item(int sheet, int i) {
        if (!isSheet(sheet)) return NO;
        Sheet s = sheets[sheet];
        return !s.isMissing() && s.has(i) ? s.items[i] : NO;
    }

    public int copy(int sheet, int i, int other, int j, int n) {
        if (!isSheet(sheet) || !isSheet(other)) return BAD;
        Sheet from = sheets[sheet];
        Sheet to = sheets[other];
        if (from.isMissing() || to.isMissing()) return MISSING;
        if (from.sort != to.sort) return UNLIKE;
        if (!from.hasRun(i, n) || !to.hasRun(j, n)) return OUTSIDE;
        System.arraycopy(from.items, i, to.items, j, n);
        return n;
    }

    // ---- what several calls need

    private static boolean isTwelfths(int number) {
        return number >= 0 && number <= WHOLE;
    }

    private static boolean isHint(int number) {
        return number >= 0 && number <= HINTS;
    }

    private static boolean isLine(int line) {
        return line == 0 || line == 1;
    }

    private static boolean isSheet(int sheet) {
        return sheet >= 0 && sheet < SHEETS;
    }

    private static boolean isSort(int sort) {
        return sort >= LONGS && sort <= BYTES;
    }

    /** A line of above over below in lowest terms; STATE, if there is nothing below. */
    private static long fraction(long above, long below, int line) {
        if (below == 0) return STATE;
        long common = greatestDivisor(above, below);
        if (common == 0) return STATE;
        return (line == 0 ? above : below) / common;
    }

    private static long greatestDivisor(long a, long b) {
        long divisor = a;
        long rest = b;
        for (int i = 0; i < GREAT && rest != 0; i++) {
            long next = divisor % rest;
            divisor = rest;
            rest = next;
        }
        return divisor;
    }

    private long oddsIn(Web some, int node, int v, int line) {
        return fraction(worlds.weighBoth(some, node, v, node, v), worlds.weighAll(some), line);
    }

    private boolean tellsValues(Sheet s) {
        if (s.size != web.size) return false;
        for (int i = 0; i < web.size; i++) {
            // a long is looked at as it is: its lowest 32 bits alone might be a value
            if (s.items[i] < NONE || s.items[i] >= web.nodes[i].size) return false;
        }
        return true;
    }

    private boolean tellsEachNodeOnce(Sheet s) {
        if (s.size != web.size) return false;
        int seen = 0;
        for (int i = 0; i < web.size; i++) {
            if (s.items[i] < 0 || s.items[i] >= web.size) return false;
            seen |= 1 << (int) s.items[i];
        }
        return Integer.bitCount(seen) == web.size;
    }

    private int doClause(int word, int[] n) {
        switch (word) {
            case Tape.NODE: return node(n[0], TABLE, noneIfNine(n[1]), noneIfNine(n[2]));
            case Tape.MOST_NODE: return node(n[0], MOST, noneIfNine(n[1]), noneIfNine(n[2]));
            case Tape.LEAST_NODE: return node(n[0], LEAST, noneIfNine(n[1]), noneIfNine(n[2]));
            case Tape.SUM_NODE: return node(n[0], SUM, noneIfNine(n[1]), noneIfNine(n[2]));
            case Tape.ROW: return row(n[0], n[1], n[2], n[3], n[4]);
            case Tape.TOLD: return told(n[0], noneIfNine(n[1]));
            case Tape.DONE: return done(n[0], noneIfNine(n[1]));
            case Tape.HINT: return hint(n[0], n[1], n[2], n[3]);
            default: return BAD;
        }
    }

    private static int noneIfNine(int number) {
        return number == NINE ? NONE : number;
    }

    /** One NODE, with all that is told of it. */
    private static final class Node {
        final int[] cells = new int[ROWS * VALUES];
        final int[] hints = new int[VALUES];
        int size = 2;
        int kind = TABLE;
        int p = NONE;
        int q = NONE;
        /** ROWS: all of them, and those of one value of p. */
        int rows = 1;
        int rowsOfP = 1;
        int finding = NONE;
        int doneTo = NONE;

        boolean has(int v) {
            return v >= 0 && v < size;
        }

        boolean hasOrNone(int v) {
            return v == NONE || has(v);
        }

        void begin(int newSize, int newKind, int newP, int newQ) {
            size = newSize;
            kind = newKind;
            p = newP;
            q = newQ;
            finding = NONE;
            doneTo = NONE;
            setHints(1, 1, 1);
        }

        /** MOST, LEAST and SUM have ROWS, too, so that all KINDS are weighed and DRAWN alike. */
        void beginRows(int sizeOfP, int sizeOfQ) {
            rowsOfP = sizeOfQ;
            rows = Math.min(sizeOfP * sizeOfQ, ROWS);
            int row = 0;
            for (int a = 0; a < sizeOfP; a++) {
                for (int b = 0; b < sizeOfQ && row < rows; b++) beginRow(row++, a, b);
            }
        }

        private void beginRow(int row, int valueOfP, int valueOfQ) {
            if (kind != TABLE) {
                setRow(row, 0, 0, 0);
                cells[row * VALUES + made(valueOfP, valueOfQ)] = WHOLE;
            } else if (size == 2) {
                setRow(row, WHOLE / 2, WHOLE / 2, 0);
            } else {
                setRow(row, WHOLE / VALUES, WHOLE / VALUES, WHOLE / VALUES);
            }
        }

        /** The value of a MOST, LEAST or SUM. */
        private int made(int valueOfP, int valueOfQ) {
            if (kind == SUM) {
                int sum = valueOfP + valueOfQ;
                return size == 2 ? sum % 2 : sum % VALUES;
            }
            int second = q == NONE ? valueOfP : valueOfQ;
            int value = kind == MOST ? Math.max(valueOfP, second) : Math.min(valueOfP, second);
            return Math.min(value, size - 1);
        }

        void setRow(int row, int a, int b, int c) {
            int first = row * VALUES;
            cells[first] = a;
            cells[first + 1] = b;
            cells[first + 2] = c;
        }

        void setHints(int a, int b, int c) {
            hints[0] = a;
            hints[1] = b;
            hints[2] = c;
        }

        boolean isHinted() {
            return hints[0] != hints[1] || size == VALUES && hints[1] != hints[2];
        }

        boolean isEvidence() {
            return finding != NONE || isHinted();
        }

        /** The number of value v where the PARENTS have these values (0, where one isn't). */
        int numberOf(int v, int valueOfP, int valueOfQ) {
            if (doneTo != NONE) return v == doneTo ? WHOLE : 0;
            return cells[(valueOfP * rowsOfP + valueOfQ) * VALUES + v];
        }

        void become(Node other) {
            System.arraycopy(other.cells, 0, cells, 0, cells.length);
            System.arraycopy(other.hints, 0, hints, 0, hints.length);
            size = other.size;
            kind = other.kind;
            p = other.p;
            q = other.q;
            rows = other.rows;
            rowsOfP = other.rowsOfP;
            finding = other.finding;
            doneTo = other.doneTo;
        }

        void printTo(StringBuilder line, int number) {
            line.append(number).append('/').append(size);
            if (kind != TABLE) line.append(kind == MOST ? " most" : kind == LEAST ? " least" : " sum");
            if (p != NONE) line.append(" <").append(p);
            if (q != NONE) line.append(',').append(q);
            if (finding != NONE) line.append(" told=").append(finding);
            if (doneTo != NONE) line.append(" done=").append(doneTo);
            if (!isHinted()) return;
            line.append(" hint ").append(hints[0]).append(':').append(hints[1]);
            if (size == VALUES) line.append(':').append(hints[2]);
        }
    }

    /** All NODES. */
    private static final class Web {
        final Node[] nodes = new Node[NODES];
        int size;

        Web() {
            for (int i = 0; i < NODES; i++) nodes[i] = new Node();
        }

        boolean has(int node) {
            return node >= 0 && node < size;
        }

        boolean hasOrNone(int node) {
            return node == NONE || has(node);
        }

        boolean hasValue(int node, int v) {
            return has(node) && nodes[node].has(v);
        }

        int add(int newSize, int kind, int p, int q) {
            int number = size;
            Node n = nodes[number];
            n.begin(newSize, kind, p, q);
            n.beginRows(has(p) ? nodes[p].size : 1, has(q) ? nodes[q].size : 1);
            size++;
            return number;
        }

        void become(Web other) {
            for (int i = 0; i < other.size; i++) nodes[i].become(other.nodes[i]);
            size = other.size;
        }

        /** The number of a NODE's value v in a WORLD, of which the values of lower NODES are known. */
        int numberIn(int[] world, int node, int v) {
            Node n = nodes[node];
            return n.numberOf(v, has(n.p) ? world[n.p] : 0, has(n.q) ? world[n.q] : 0);
        }

        /** What a NODE of value v multiplies the WEIGHT of a WORLD by. */
        int factorIn(int[] world, int node, int v) {
            Node n = nodes[node];
            if (n.finding != NONE && n.finding != v) return 0;
            return numberIn(world, node, v) * n.hints[v];
        }

        boolean isParent(int parent, int node) {
            return nodes[node].p == parent || nodes[node].q == parent;
        }

        /** Whether what parent is matters to node: one that is DONE heeds no PARENTS. */
        boolean heeds(int node, int parent) {
            return nodes[node].doneTo == NONE && isParent(parent, node);
        }

        /** Whether a NODE or one below it has a FINDING or is HINTED. */
        boolean hasEvidenceFrom(int node) {
            int below = 1 << node;
            // PARENTS have lower numbers: one pass upwards meets all that are below
            for (int i = node; i < size; i++) {
                if (i > node && heedsAny(i, below)) below |= 1 << i;
                if ((below >> i & 1) != 0 && nodes[i].isEvidence()) return true;
            }
            return false;
        }

        private boolean heedsAny(int node, int parents) {
            Node n = nodes[node];
            if (n.doneTo != NONE) return false;
            return n.p != NONE && (parents >> n.p & 1) != 0 || n.q != NONE && (parents >> n.q & 1) != 0;
        }

        int countFindings() {
            int found = 0;
            for (int i = 0; i < size; i++) if (nodes[i].finding != NONE) found++;
            return found;
        }

        int countDone() {
            int found = 0;
            for (int i = 0; i < size; i++) if (nodes[i].doneTo != NONE) found++;
            return found;
        }

        int countHinted() {
            int found = 0;
            for (int i = 0; i < size; i++) if (nodes[i].isHinted()) found++;
            return found;
        }

        int countWorlds() {
            int all = 1;
            for (int i = 0; i < size; i++) all *= nodes[i].size;
            return all;
        }
    }

    /** The WORLDS of a web: their WEIGHTS together, the LIKELIEST, one that is DRAWN. */
    private static final class Worlds {
        /** The WORLD at hand. */
        final int[] world = new int[NODES];
        /** What those WORLDS that are weighed have (NONE: whatever). */
        final int[] wanted = new int[NODES];
        final int[] likeliest = new int[NODES];
        private long greatest;

        long weighAll(Web web) {
            Arrays.fill(wanted, NONE);
            return weighFrom(web, this, 0);
        }

        long weighBoth(Web web, int node, int v, int other, int w) {
            if (node == other && v != w) return 0;
            Arrays.fill(wanted, NONE);
            wanted[node] = v;
            wanted[other] = w;
            return weighFrom(web, this, 0);
        }

        /** Of each value of other the greatest WEIGHT that it has with a value of node, together. */
        long weighGuesses(Web web, int node, int other) {
            long together = 0;
            for (int x = 0; x < web.nodes[other].size; x++) {
                long most = 0;
                for (int h = 0; h < web.nodes[node].size; h++) {
                    most = Math.max(most, weighBoth(web, node, h, other, x));
                }
                together += most;
            }
            return together;
        }

        long weighWanted(Web web) {
            return weighFrom(web, this, 0);
        }

        /** The WEIGHTS, together, of what the NODES from i on may be after those below i. */
        private static long weighFrom(Web web, Worlds w, int i) {
            if (i >= web.size || i >= NODES) return 1;
            long together = 0;
            for (int v = 0; v < web.nodes[i].size; v++) {
                if (w.wanted[i] != NONE && w.wanted[i] != v) continue;
                long factor = web.factorIn(w.world, i, v);
                if (factor == 0) continue;
                w.world[i] = v;
                together += factor * weighFrom(web, w, i + 1);
            }
            return together;
        }

        /** Whether there is a WORLD with a WEIGHT at all. */
        boolean findLikeliest(Web web) {
            greatest = 0;
            seekLikeliest(web, this, 0, 1);
            return greatest > 0;
        }

        /** Goes from low values to high ones, so that of several the first met is the one asked for. */
        private static void seekLikeliest(Web web, Worlds w, int i, long sofar) {
            if (i >= web.size || i >= NODES) {
                if (sofar <= w.greatest) return;
                w.greatest = sofar;
                System.arraycopy(w.world, 0, w.likeliest, 0, NODES);
                return;
            }
            for (int v = 0; v < web.nodes[i].size; v++) {
                long factor = web.factorIn(w.world, i, v);
                if (factor == 0) continue;
                w.world[i] = v;
                seekLikeliest(web, w, i + 1, sofar * factor);
            }
        }

        void draw(Web web, int seed) {
            int z = seed;
            for (int i = 0; i < web.size; i++) {
                z = z * 1103515245 + 12345;
                world[i] = drawOne(web, i, (z >>> 9) % WHOLE);
            }
        }

        private int drawOne(Web web, int node, int mark) {
            int last = web.nodes[node].size - 1;
            int together = 0;
            for (int v = 0; v < last; v++) {
                together += web.numberIn(world, node, v);
                if (together > mark) return v;
            }
            return last;
        }

        boolean fitsFindings(Web web) {
            for (int i = 0; i < web.size; i++) {
                int finding = web.nodes[i].finding;
                if (finding != NONE && finding != world[i]) return false;
            }
            return true;
        }
    }

    /** WAYS from NODE to NODE. */
    private static final class Way {
        static boolean leads(Web web, int from, int goal) {
            return leadsOn(web, NONE, from, goal, 1 << from, 0);
        }

        /** Whether the WAY that came from before to at, by those seen, can go on to the goal. */
        private static boolean leadsOn(Web web, int before, int at, int goal, int seen, int depth) {
            if (at == goal) return true;
            if (depth >= NODES) return false;
            for (int next = 0; next < web.size; next++) {
                if ((seen >> next & 1) != 0) continue;
                if (!web.heeds(at, next) && !web.heeds(next, at)) continue;
                if (before != NONE && !isOpen(web, before, at, next)) continue;
                if (leadsOn(web, at, next, goal, seen | 1 << next, depth + 1)) return true;
            }
            return false;
        }

        private static boolean isOpen(Web web, int before, int at, int next) {
            if (web.isParent(before, at) && web.isParent(next, at)) return web.hasEvidenceFrom(at);
            return web.nodes[at].finding == NONE;
        }
    }

    /** NODES as they leave one by one. */
    private static final class Leaving {
        /** Of each NODE those NEAR to it that haven't left, as bits. */
        private final int[] near = new int[NODES];
        final int[] order = new int[NODES];
        final int[] fills = new int[NODES];
        final int[] groups = new int[NODES];

        void begin(Web web) {
            Arrays.fill(near, 0);
            for (int i = 0; i < web.size; i++) {
                Node n = web.nodes[i];
                if (n.doneTo != NONE) continue;
                if (web.has(n.p)) bringNear(i, n.p);
                if (web.has(n.q)) bringNear(i, n.q);
                if (web.has(n.p) && web.has(n.q)) bringNear(n.p, n.q);
            }
        }

        private void bringNear(int a, int b) {
            near[a] |= 1 << b;
            near[b] |= 1 << a;
        }

        int countNear(Web web) {
            begin(web);
            int ends = 0;
            for (int i = 0; i < web.size; i++) ends += Integer.bitCount(near[i]);
            return ends / 2;
        }

        void leaveByLeastFill(Web web) {
            begin(web);
            int left = 0;
            for (int k = 0; k < web.size; k++) {
                int next = NONE;
                int least = 0;
                for (int i = 0; i < web.size; i++) {
                    if ((left >> i & 1) != 0) continue;
                    int fill = fillOf(i);
                    if (next != NONE && fill >= least) continue;
                    next = i;
                    least = fill;
                }
                if (next == NONE) return;
                leave(k, next);
                left |= 1 << next;
            }
        }

        private int fillOf(int node) {
            int ends = 0;
            for (int i = 0; i < NODES; i++) {
                if ((near[node] >> i & 1) == 0) continue;
                ends += Integer.bitCount(near[node] & ~near[i] & ~(1 << i));
            }
            return ends / 2;
        }

        void leave(int k, int node) {
            int others = near[node];
            order[k] = node;
            fills[k] = fillOf(node);
            groups[k] = others | 1 << node;
            for (int i = 0; i < NODES; i++) {
                if ((others >> i & 1) == 0) continue;
                near[i] = (near[i] | others) & ~(1 << i) & ~(1 << node);
            }
            near[node] = 0;
        }

        int costOf(Web web) {
            int together = 0;
            for (int k = 0; k < web.size; k++) {
                int product = 1;
                for (int i = 0; i < web.size; i++) {
                    if ((groups[k] >> i & 1) != 0) product *= web.nodes[i].size;
                }
                together += product;
            }
            return together;
        }
    }

    /** CLUSTERS, and how they are JOINED. */
    private static final class Tree {
        final int[] clusters = new int[NODES];
        final int[] joined = new int[NODES];
        final int[] common = new int[NODES];
        int size;
        /** The CLUSTERS that are in THE TREE, as bits. */
        private int in;

        void grow(Leaving leaving, int nodes) {
            size = 0;
            for (int k = 0; k < nodes && k < NODES; k++) {
                if (!isInOne(leaving.groups[k])) clusters[size++] = leaving.groups[k];
            }
            Arrays.fill(joined, NONE);
            Arrays.fill(common, 0);
            in = 1;
            for (int i = 1; i < size; i++) joinNext();
        }

        private boolean isInOne(int group) {
            for (int i = 0; i < size; i++) if ((group & ~clusters[i]) == 0) return true;
            return false;
        }

        private void joinNext() {
            int next = NONE;
            int to = NONE;
            int most = NONE;
            for (int i = 0; i < size; i++) {
                if ((in >> i & 1) != 0) continue;
                for (int j = 0; j < size; j++) {
                    if ((in >> j & 1) == 0) continue;
                    int shared = Integer.bitCount(clusters[i] & clusters[j]);
                    if (shared <= most) continue;
                    most = shared;
                    next = i;
                    to = j;
                }
            }
            if (next == NONE) return;
            joined[next] = to;
            common[next] = clusters[next] & clusters[to];
            in |= 1 << next;
        }
    }

    /** A SHEET. All sorts are held as longs: set makes each as narrow as its sort is. */
    private static final class Sheet {
        final long[] items = new long[ITEMS];
        int sort = NONE;
        int size;

        boolean isMissing() {
            return sort == NONE;
        }

        boolean has(int i) {
            return i >= 0 && i < size;
        }

        boolean hasRun(int i, int n) {
            // n against what is behind i: i + n might be above all ints
            return i >= 0 && i <= size && n >= 0 && n <= size - i;
        }

        void become(int newSort, int n) {
            sort = newSort;
            size = n;
            Arrays.fill(items, 0);
        }

        void set(int i, long v) {
            items[i] = sort == LONGS ? v : sort == INTS ? (int) v : (byte) v;
        }
    }

    /** THE TAPE, read TOKEN by TOKEN. */
    private static final class Tape {
        static final int NODE = 0, MOST_NODE = 1, LEAST_NODE = 2, SUM_NODE = 3;
        static final int ROW = 4, TOLD = 5, DONE = 6, HINT = 7;
        private static final int WORDS = 8;
        private static final int[] NEEDS = {3, 3, 3, 3, 5, 2, 2, 4};
        private static final int END = 0, WORD_TOKEN = 1, NUMBER_TOKEN = 2, SIGN_TOKEN = 3, FALSE_TOKEN = 4;
        private static final int DIGITS = 2;

        private final int[] bytes = new int[TAPE];
        int size;
        /** The place from which the next TOKEN is read. */
        int at;
        /** The TOKEN read last: where it begins, what it is, which WORD or NUMBER. */
        private int begin;
        private int token;
        private int value;
        /** The CLAUSE read last. */
        int word;
        final int[] numbers = new int[NUMBERS];

        void add(int letter) {
            bytes[size++] = letter;
        }

        /** The place of the FAULT; NONE: there is none. */
        int findFault() {
            boolean wordDue = true;
            int numbersDue = 0;
            at = 0;
            // each TOKEN takes a byte at least, and one turn more meets the end
            for (int i = 0; i <= size; i++) {
                readToken();
                if (wordDue) {
                    if (token != WORD_TOKEN) return begin;
                    wordDue = false;
                    numbersDue = NEEDS[value];
                } else if (numbersDue > 0) {
                    if (token != NUMBER_TOKEN) return begin;
                    numbersDue--;
                } else if (token == END) {
                    return NONE;
                } else {
                    if (token != SIGN_TOKEN) return begin;
                    wordDue = true;
                }
            }
            return size;
        }

        /** Reads a CLAUSE, and the SIGN behind it, of a TAPE without FAULT: whether there was one. */
        boolean readClause() {
            readToken();
            if (token != WORD_TOKEN) return false;
            word = value;
            for (int i = 0; i < NEEDS[word]; i++) {
                readToken();
                numbers[i] = value;
            }
            readToken();
            return true;
        }

        private void readToken() {
            while (at < size && bytes[at] == ' ') at++;
            begin = at;
            if (at >= size) {
                token = END;
            } else if (isLetter(bytes[at])) {
                while (at < size && isLetter(bytes[at])) at++;
                value = findWord();
                token = value == NONE ? FALSE_TOKEN : WORD_TOKEN;
            } else if (isDigit(bytes[at])) {
                readNumber();
                token = at - begin > DIGITS ? FALSE_TOKEN : NUMBER_TOKEN;
            } else {
                token = bytes[at] == ';' ? SIGN_TOKEN : FALSE_TOKEN;
                at++;
            }
        }

        private void readNumber() {
            value = 0;
            while (at < size && isDigit(bytes[at])) {
                value = value * 10 + bytes[at] - '0';
                at++;
            }
        }

        private int findWord() {
            for (int i = 0; i < WORDS; i++) if (isRead(wordOf(i))) return i;
            return NONE;
        }

        private boolean isRead(String text) {
            if (text.length() != at - begin) return false;
            for (int i = 0; i < text.length(); i++) {
                if (bytes[begin + i] != text.charAt(i)) return false;
            }
            return true;
        }

        private static String wordOf(int i) {
            switch (i) {
                case NODE: return "node";
                case MOST_NODE: return "most";
                case LEAST_NODE: return "least";
                case SUM_NODE: return "sum";
                case ROW: return "row";
                case TOLD: return "told";
                case DONE: return "done";
                default: return "hint";
            }
        }

        private static boolean isLetter(int letter) {
            return letter >= 'a' && letter <= 'z';
        }

        private static boolean isDigit(int letter) {
            return letter >= '0' && letter <= '9';
        }
    }
}
