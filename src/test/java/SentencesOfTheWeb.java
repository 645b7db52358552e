import java.lang.reflect.Field;

/** Promises 1 to 6 and 9 to 11, sentence by sentence. */
final class SentencesOfTheWeb {
    private static final int NONE = Run.NONE, BAD = Run.BAD, FULL = Run.FULL, OUTSIDE = Run.OUTSIDE, UNLIKE = Run.UNLIKE;
    private static final long NO = Run.NO;
    private static final String GREATEST = "2147483647", LEAST = "-2147483648";
    private static final String FIRST_NAMED = "Refusals, the first that the call's words name; they change nothing";
    private static final String SIZE = "have a SIZE (2, 3: values 0 .. SIZE - 1)";
    private static final String PARENTS = "PARENTS (two at most: p, and perhaps q, unlike NODES of lower numbers)";
    private static final String ROWS = "A TABLE has a ROW for each case of its PARENTS' values "
        + "(without PARENTS 0; with p alone its value; with both p's value times q's SIZE, and q's value)";
    private static final String NUMBERS = "a number (0 .. 12) for each value, together 12 (at first 6 6, or 4 4 4).";
    private static final String HINTED = "has a HINT: a number (0 .. 9; at first 1) for each value; it is HINTED, if these aren't all the same.";
    /** One TABLE of each SIZE, and one of each other KIND. */
    private static final String KINDS = "node 2 0 -1 -1;node 3 0 0 -1;node 3 1 0 1;node 2 2 1 -1;node 3 3 1 0";

    private SentencesOfTheWeb() { }

    static void tell(Sentences s) {
        constants(s);
        newObject(s);
        node(s);
        parentsOfNode(s);
        refusalsOfNode(s);
        row(s);
        refusalsOfRow(s);
        told(s);
        done(s);
        hint(s);
        of(s);
        cell(s);
        print(s);
        line(s);
    }

    private static long constant(String name) {
        try {
            Field f = FindingsWeb.class.getField(name);
            return f.getLong(null);
        } catch (ReflectiveOperationException e) {
            throw new IllegalStateException(name, e);
        }
    }

    private static void constants(Sentences s) {
        s.of(1, "NONE is -1; NO, where a long is answered, -4611686018427387904.", "both", () -> {
            Check.due("NONE", constant("NONE"), -1);
            Check.due("NO", constant("NO"), -4611686018427387904L);
            Run.of("node 2 0 -1 -1").due(-1, "of 0 2").due(-4611686018427387904L, "odds 0 2 0");
        })
            .breaks("public final class", "NONE = -1", "NONE = -9")
            .breaks("public final class", "NO = -4611686018427387904L", "NO = -4611686018427387903L");
        s.of(1, "BAD (-2: a number is none such or not as told), STATE (-3), FULL (-4);", "each of them", () -> {
            Check.due("BAD", constant("BAD"), -2);
            Check.due("STATE", constant("STATE"), -3);
            Check.due("FULL", constant("FULL"), -4);
            Run.of().due(-2, "of 0 0").due(-3, "back");
        })
            .breaks("public final class", "BAD = -2", "BAD = -5")
            .breaks("public final class", "STATE = -3", "STATE = -5")
            .breaks("public final class", "FULL = -4", "FULL = -5");
        s.of(33, "the host's: -11 nothing where something is asked, -12 a place outside, -13 a thing of another sort or KIND, "
            + "-14 a size below 0.", "each of them", () -> Run.of("node 2 0 -1 -1;node 2 1 0 -1;sheet 0 0 1;sheet 1 1 1")
                .refuses(-11, "put 2 0 0").refuses(-12, "put 0 1 0", "row 0 1 6 6 0")
                .refuses(-13, "copy 0 0 1 0 1", "row 1 0 6 6 0")
                .refuses(-14, "sheet 0 0 -1"))
            .breaks("private static final int MISSING", "MISSING = -11", "MISSING = -15")
            .breaks("private static final int MISSING", "OUTSIDE = -12", "OUTSIDE = -15")
            .breaks("private static final int MISSING", "UNLIKE = -13", "UNLIKE = -15")
            .breaks("private static final int MISSING", "BELOW_NOTHING = -14", "BELOW_NOTHING = -15");
    }

    private static void newObject(Sentences s) {
        s.of(1, "An object is used for at most 512 calls after it has been made;", "the 512th is answered", () -> {
            Run r = Run.of("node 2 0 -1 -1;node 3 0 0 -1");
            for (int i = 2; i < 510; i++) r.due(2, "count 0");
            r.due(NONE, "told 1 2").due(2, "of 1 4");
        })
            .breaks("public int count(", "public int count(int what) {",
                "private int asked;\n    public int count(int what) {\n        if (++asked > 507) return BAD;");
        s.of(1, "No NODES.", "so no number is a NODE's", () -> {
            Run r = Run.of().due(0, "count 0").due(1, "weight");
            r.refuses(BAD, "of 0 0", "told 0 0", "done 0 0", "hint 0 1 1 1", "row 0 0 6 6 0", "cell 0 0 0", "print 0 -1",
                    "likely 0");
            r.refuses(BAD, "telling 0", "apart 0 1", "drawn 0 0", "chance 0 1 0 0 0", "node 2 0 0 -1");
            r.bothLines(NO, "odds 0 0", "both 0 0 0 0", "would 0 0 0 0", "without 0 0 0", "tells 0 1");
            r.refuses(OUTSIDE, "leaves 0 0", "cluster 0 0").due(0, "cluster -1 0", "cost -1", "node 2 0 -1 -1");
        })
            .breaks("private static final class Web ", "int size;", "int size = 1;");
        s.of(1, "SHEETS 0 .. 3 are rows of numbers, or missing (as all are at first)", "all four are, and no fifth",
            () -> Run.of()
            .refuses(Run.MISSING, "put 0 0 0", "put 1 0 0", "put 2 0 0", "put 3 0 0", "copy 0 0 3 0 0")
            .refuses(BAD, "put 4 0 0", "put -1 0 0").due(NO, "item 0 0", "item 3 0"))
            .breaks("private static final class Sheet ", "int sort = NONE;", "int sort = LONGS;")
            .breaks("private static final int SHEETS", "SHEETS = 4", "SHEETS = 3")
            .breaks("private static final int SHEETS", "SHEETS = 4", "SHEETS = 5");
        s.of(1, "SHEETS 0 .. 3 are rows of numbers, or missing (as all are at first): of sort 0 longs, 1 ints, 2 bytes.",
            "each sort's width",
            () -> Run.of("sheet 0 0 1;sheet 1 1 1;sheet 2 2 1;put 0 0 4294967596;put 1 0 4294967596;put 2 0 4294967596")
                .items(0, 4294967596L).items(1, 300).items(2, 44))
            .breaks("LONGS = 0", "LONGS = 0, INTS = 1", "LONGS = 1, INTS = 0")
            .breaks("LONGS = 0", "INTS = 1, BYTES = 2", "INTS = 2, BYTES = 1");
    }

    private static void node(Sentences s) {
        s.of(2, "NODES 0 .. 6, as they come,", "the first is 0, the last 6", () -> {
            Run r = Run.of();
            for (int i = 0; i < 7; i++) r.due(i, "node " + (2 + i % 2) + " 0 -1 -1").due(i + 1, "count 0");
            for (int i = 0; i < 7; i++) r.due(2 + i % 2, "of " + i + " 0");
        })
            .breaks("int add(int newSize", "return number;", "return size;")
            .breaks("int add(int newSize", "int number = size;", "int number = Math.min(size, NODES - 2);");
        s.of(2, SIZE, "the greatest value, and one more", () -> Run.of("node 2 0 -1 -1;node 3 0 -1 -1")
            .due(NONE, "told 0 1", "told 1 2", "done 0 1", "done 1 2")
            .refuses(BAD, "told 0 2", "told 1 3", "done 0 2", "done 1 3")
            .due(1, "told 0 0"))
            .breaks("boolean has(int v)", "v < size", "v <= size")
            .breaks("boolean has(int v)", "v < size", "v < size - 1")
            .breaks("boolean has(int v)", "v < size", "v < VALUES");
        s.of(2, SIZE, "the least value, and one less", () -> Run.of("node 2 0 -1 -1;node 3 0 -1 -1")
            .due(NONE, "told 0 0", "told 1 0").refuses(BAD, "told 0 -2", "cell 0 0 -1").due(6, "cell 0 0 0"))
            .breaks("boolean has(int v)", "v >= 0", "v > 0")
            .breaks("boolean has(int v)", "v >= 0", "v >= -2");
        s.of(2, "A NODE comes (p, q: NONE or PARENTS): its number.", "none, p alone, both, either greater", () -> Run.of()
            .due(0, "node 2 0 -1 -1").due(1, "node 3 0 0 -1").due(2, "node 2 0 0 1").due(3, "node 3 0 2 0").due(4, "node 3 0 1 2")
            .due(NONE, "of 0 2", "of 0 3", "of 1 3").due(0, "of 1 2", "of 2 2", "of 3 3").due(1, "of 2 3").due(2, "of 3 2"))
            .breaks("public int node(", "!web.hasOrNone(p)", "!web.has(p)")
            .breaks("public int node(", "!web.hasOrNone(q)", "!web.has(q)")
            .breaks("public int node(", "p == q", "p >= q")
            .breaks("public int node(", "p == q", "p <= q && p > 0")
            .breaks("public int node(", "return web.add(", "return 1 + web.add(");
        s.of(2, "a KIND: 0 TABLE; 1 MOST, 2 LEAST, 3 SUM (with a PARENT at least).", "what each of them is", () -> {
            Run r = Run.of("node 3 0 -1 -1;node 3 0 -1 -1;node 3 0 0 1;node 3 1 0 1;node 3 2 0 1;node 3 3 0 1;told 0 2;told 1 1");
            r.fraction(1, 3, "odds 2 0").fraction(1, 1, "odds 3 2", "odds 4 1", "odds 5 0");
        })
            .breaks("TABLE = 0", "MOST = 1, LEAST = 2", "MOST = 2, LEAST = 1")
            .breaks("TABLE = 0", "LEAST = 2, SUM = 3", "LEAST = 3, SUM = 2")
            .breaks("TABLE = 0", "TABLE = 0, MOST = 1", "TABLE = 1, MOST = 0");
    }

    private static void parentsOfNode(Sentences s) {
        String web = "node 2 0 -1 -1;node 2 0 -1 -1;node 2 0 -1 -1";
        s.of(2, PARENTS, "its own number, and a greater one", () -> Run.of(web)
            .refuses(BAD, "node 2 0 3 -1", "node 2 0 0 3", "node 2 0 4 -1", "node 2 0 0 4", "node 2 1 3 -1")
            .due(3, "node 2 0 2 1"))
            .breaks("public int node(", "!web.hasOrNone(p)", "!web.hasOrNone(p) && p != web.size")
            .breaks("public int node(", "!web.hasOrNone(q)", "!web.hasOrNone(q) && q != web.size")
            .breaks("public int node(", "!web.hasOrNone(p)", "p < NONE || p >= NODES")
            .breaks("public int node(", "!web.hasOrNone(p)", "!web.hasOrNone(p + 1)");
        s.of(2, PARENTS, "p and q alike", () -> Run.of(web).refuses(BAD, "node 2 0 0 0", "node 3 1 2 2").due(3, "node 2 0 0 2"))
            .breaks("public int node(", " || p == q", "")
            .breaks("public int node(", "p == q", "p == q && p > 0");
    }

    private static void refusalsOfNode(Sentences s) {
        String words = "BAD: SIZE, KIND, p, q, q alone, KIND 1 .. 3 without a PARENT;";
        String web = "node 2 0 -1 -1;node 3 0 0 -1";
        s.of(2, words, "SIZE", () -> Run.of(web)
            .refuses(BAD, "node 1 0 -1 -1", "node 0 0 0 1", "node -1 0 -1 -1", "node " + LEAST + " 0 -1 -1")
            .refuses(BAD, "node 4 0 -1 -1", "node 5 1 0 -1", "node " + GREATEST + " 0 -1 -1").due(2, "node 2 0 -1 -1")
            .due(3, "node 3 0 -1 -1"))
            .breaks("public int node(", "size < 2", "size < 1")
            .breaks("public int node(", "size < 2", "size <= 2")
            .breaks("public int node(", "size > VALUES", "size > 4")
            .breaks("public int node(", "size > VALUES", "size >= VALUES")
            .breaks("public int node(", "size > VALUES", "size == 4");
        s.of(2, words, "KIND", () -> Run.of(web)
            .refuses(BAD, "node 2 -1 0 1", "node 2 -2 0 1", "node 2 4 0 1", "node 2 " + GREATEST + " 0 -1")
            .due(2, "node 2 0 0 1").due(3, "node 2 3 0 1"))
            .breaks("public int node(", "kind < TABLE", "kind < -1")
            .breaks("public int node(", "kind < TABLE", "kind <= TABLE")
            .breaks("public int node(", "kind > SUM", "kind > 4")
            .breaks("public int node(", "kind > SUM", "kind >= SUM");
        s.of(2, words, "p", () -> Run.of(web).refuses(BAD, "node 2 0 -2 -1", "node 2 0 2 -1", "node 2 0 9 -1", "node 2 1 -2 0")
            .refuses(BAD, "node 2 0 " + GREATEST + " 0", "node 2 0 " + LEAST + " -1").due(2, "node 2 0 -1 -1"))
            .breaks("public int node(", "!web.hasOrNone(p)", "!web.hasOrNone(p) && p != -2")
            .breaks("public int node(", "!web.hasOrNone(p)", "!web.hasOrNone(p) && p != 9");
        s.of(2, words, "q", () -> Run.of(web)
            .refuses(BAD, "node 2 0 0 -2", "node 2 0 1 2", "node 2 0 0 9", "node 2 0 0 " + GREATEST)
            .refuses(BAD, "node 2 0 0 " + LEAST).due(2, "node 2 0 0 -1"))
            .breaks("public int node(", "!web.hasOrNone(q)", "!web.hasOrNone(q) && q != -2")
            .breaks("public int node(", "!web.hasOrNone(q)", "!web.hasOrNone(q) && q != 9");
        s.of(2, words, "q alone", () -> Run.of(web).refuses(BAD, "node 2 0 -1 0", "node 2 0 -1 1", "node 2 3 -1 0"))
            .breaks("public int node(", "p == NONE || p == q", "p == q")
            .breaks("public int node(", "p == NONE ||", "p == NONE && q > 0 ||");
        s.of(2, words, "KIND 1, 2, 3 without a PARENT", () -> Run.of(web)
            .refuses(BAD, "node 2 1 -1 -1", "node 2 2 -1 -1", "node 3 3 -1 -1")
            .due(2, "node 2 1 0 -1").due(3, "node 3 2 1 -1").due(4, "node 2 3 0 1"))
            .breaks("public int node(", "kind != TABLE && p", "kind > MOST && p")
            .breaks("public int node(", "kind != TABLE && p", "kind == MOST && p")
            .breaks("public int node(", "kind != TABLE && p", "kind != SUM && kind != TABLE && p")
            .breaks("public int node(", "&& p == NONE", "&& q == NONE");
        String seven = "node 2 0 -1 -1;node 2 0 0 -1;node 2 0 -1 -1;node 2 0 -1 -1;node 2 0 -1 -1;node 2 0 -1 -1";
        s.of(2, "FULL: 7.", "the seventh comes, the eighth doesn't", () -> Run.of(seven).due(6, "node 3 0 0 1")
            .refuses(FULL, "node 2 0 -1 -1", "node 3 1 6 0").due(7, "count 0"))
            .breaks("public int node(", "web.size >= NODES", "web.size > NODES")
            .breaks("public int node(", "web.size >= NODES", "web.size >= NODES - 1");
        s.of(2, FIRST_NAMED, "BAD ahead of FULL", () -> Run.of(seven, "node 2 0 -1 -1")
            .refuses(BAD, "node 4 0 -1 -1", "node 2 4 0 -1", "node 2 0 7 -1", "node 2 0 0 0", "node 2 0 -1 0", "node 2 1 -1 -1"))
            .breaks("public int node(", "if (size < 2", "if (web.size >= NODES) return FULL;\n        if (size < 2")
            .breaks("public int node(", "if (kind != TABLE && p",
                "if (web.size >= NODES) return FULL;\n        if (kind != TABLE && p");
    }

    private static void row(Sentences s) {
        s.of(3, "A ROW of a TABLE becomes a, b, c (c 0, if SIZE is 2): 1.", "each number of that ROW alone",
            () -> Run.of("node 2 0 -1 -1;node 3 0 0 -1")
            .due(1, "row 1 1 1 2 9").due(1, "cell 1 1 0").due(2, "cell 1 1 1").due(9, "cell 1 1 2")
            .due(4, "cell 1 0 0", "cell 1 0 1", "cell 1 0 2")
            .due(1, "row 0 0 5 7 0").due(5, "cell 0 0 0").due(7, "cell 0 0 1"))
            .breaks("public int row(", "return 1;", "return 0;")
            .breaks("public int row(", "n.setRow(row, a, b, c);", "n.setRow(row, a, b, WHOLE - a);")
            .breaks("void setRow(", "cells[first + 1] = b;", "cells[first + 1] = a;")
            .breaks("void setRow(", "int first = row * VALUES;", "int first = 0;");
        s.of(3, "A ROW of a TABLE becomes a, b, c (c 0, if SIZE is 2): 1.", "c with SIZE 2",
            () -> Run.of("node 2 0 -1 -1;node 3 0 -1 -1")
            .refuses(BAD, "row 0 0 6 5 1", "row 0 0 0 0 12", "row 0 0 12 0 1").due(1, "row 0 0 6 6 0", "row 1 0 6 5 1"))
            .breaks("public int row(", "if (n.size == 2 && c != 0) return BAD;", "")
            .breaks("public int row(", "c != 0", "c > 1")
            .breaks("public int row(", "n.size == 2 && c != 0", "c != 0");
        s.of(3, ROWS, "without PARENTS one ROW, 0", () -> Run.of("node 3 0 -1 -1").due(1, "of 0 7", "row 0 0 1 2 9")
            .fraction(3, 4, "odds 0 2")
            .refuses(OUTSIDE, "row 0 1 4 4 4", "row 0 -1 4 4 4"))
            .breaks("int add(int newSize", "nodes[p].size : 1", "nodes[p].size : 0")
            .breaks("int add(int newSize", "nodes[p].size : 1", "nodes[p].size : 2");
        s.of(3, ROWS, "with p alone its value", () -> {
            Run r = Run.of("node 3 0 -1 -1;node 2 0 0 -1;row 1 0 1 11 0;row 1 1 5 7 0;row 1 2 12 0 0").due(3, "of 1 7");
            r.due(NONE, "told 0 0").fraction(1, 12, "odds 1 0").due(0, "told 0 1").fraction(5, 12, "odds 1 0").due(1, "told 0 2")
                .fraction(1, 1, "odds 1 0");
        })
            .breaks("int numberOf(int v", "valueOfP * rowsOfP", "valueOfP * 0")
            .breaks("void beginRows(", "rowsOfP = sizeOfQ;", "rowsOfP = sizeOfP;");
        s.of(3, ROWS, "with both p's value times q's SIZE, and q's value", () -> {
            StringBuilder rows = new StringBuilder("node 3 0 -1 -1;node 2 0 -1 -1;node 2 0 0 1;node 2 0 1 0");
            for (int row = 0; row < 6; row++) {
                for (int node = 2; node < 4; node++) rows
                    .append(";row " + node + " " + row + " " + (row + 1) + " " + (11 - row) + " 0");
            }
            for (int a = 0; a < 3; a++) {
                for (int b = 0; b < 2; b++) {
                    Run r = Run.of(rows + ";told 0 " + a + ";told 1 " + b).due(6, "of 2 7", "of 3 7");
                    r.twelfths(1 + a * 2 + b, "odds 2 0").twelfths(1 + b * 3 + a, "odds 3 0");
                }
            }
        })
            .breaks("int numberOf(int v", "valueOfP * rowsOfP + valueOfQ", "valueOfQ * rowsOfP + valueOfP")
            .breaks("void beginRows(", "rowsOfP = sizeOfQ;", "rowsOfP = sizeOfP;")
            .breaks("int numberOf(int v", "+ valueOfQ", "");
        s.of(3, NUMBERS, "0 and 12", () -> Run.of("node 2 0 -1 -1;node 3 0 -1 -1")
            .due(1, "row 0 0 12 0 0", "row 0 0 0 12 0", "row 1 0 0 0 12", "row 1 0 0 12 0")
            .due(0, "cell 0 0 0", "cell 1 0 0", "cell 1 0 2").due(12, "cell 0 0 1", "cell 1 0 1"))
            .breaks("private static boolean isTwelfths(", "number >= 0", "number > 0")
            .breaks("private static boolean isTwelfths(", "number <= WHOLE", "number < WHOLE");
        s.of(3, NUMBERS, "at first", () -> Run.of("node 2 0 -1 -1;node 3 0 0 -1;node 2 0 1 0")
            .due(6, "cell 0 0 0", "cell 0 0 1", "cell 2 0 0", "cell 2 5 1")
            .due(4, "cell 1 0 0", "cell 1 0 2", "cell 1 1 1", "cell 1 1 2"))
            .breaks("private void beginRow(", "setRow(row, WHOLE / 2, WHOLE / 2, 0)", "setRow(row, WHOLE, 0, 0)")
            .breaks("private void beginRow(", "WHOLE / VALUES, WHOLE / VALUES, WHOLE / VALUES", "WHOLE / 2, WHOLE / 2, 0")
            .breaks("void beginRows(", "beginRow(row++, a, b)", "beginRow(row, a, b)");
    }

    private static void refusalsOfRow(Sentences s) {
        s.of(3, "BAD: NODE;", "below 0, and as many as there are", () -> Run.of(KINDS)
            .refuses(BAD, "row -1 0 6 6 0", "row 5 0 6 6 0", "row 6 0 6 6 0")
            .refuses(BAD, "row 7 0 6 6 0", "row " + GREATEST + " 0 6 6 0", "row " + LEAST + " 0 6 6 0"))
            .breaks("public int row(", "!web.has(node)", "node < 0 || node >= NODES")
            .breaks("public int row(", "return BAD;", "return OUTSIDE;")
            .breaks("public int row(", "!web.has(node)", "node >= web.size");
        s.of(3, "-13: it is no TABLE;", "a MOST, a LEAST, a SUM", () -> Run.of(KINDS)
            .refuses(UNLIKE, "row 2 0 4 4 4", "row 3 0 6 6 0", "row 4 0 4 4 4"))
            .breaks("public int row(", "n.kind != TABLE", "n.kind == MOST")
            .breaks("public int row(", "n.kind != TABLE", "n.kind > MOST")
            .breaks("public int row(", "n.kind != TABLE", "n.kind == MOST || n.kind == LEAST");
        s.of(3, "-12: there is no such ROW;", "below 0, and as many as there are", () -> Run.of(KINDS)
            .refuses(OUTSIDE, "row 0 1 6 6 0", "row 0 -1 6 6 0", "row 1 2 4 4 4", "row 1 8 4 4 4", "row 1 9 4 4 4",
                "row 1 " + GREATEST + " 4 4 4")
            .due(1, "row 0 0 6 6 0", "row 1 1 4 4 4"))
            .breaks("public int row(", "row < 0", "row < -1")
            .breaks("public int row(", "row >= n.rows", "row > n.rows")
            .breaks("public int row(", "row >= n.rows", "row >= ROWS")
            .breaks("public int row(", "row >= n.rows", "row >= n.rows - 1");
        s.of(3, "-12: there is no such ROW;", "of nine ROWS the ninth is one",
            () -> Run.of("node 3 0 -1 -1;node 3 0 -1 -1;node 2 0 0 1").due(9, "of 2 7")
            .due(1, "row 2 8 12 0 0").due(12, "cell 2 8 0").refuses(OUTSIDE, "row 2 9 12 0 0"))
            .breaks("ROWS = 9", "ROWS = 9", "ROWS = 8")
            .breaks("public int row(", "row >= n.rows", "row >= 8");
        String[] anchor = {"public int row(", "!isTwelfths(a) || "};
        s.of(3, "BAD: the numbers.", "a below 0", () -> Run.of(KINDS)
            .refuses(BAD, "row 1 0 -1 12 1", "row 0 0 -1 13 0", "row 1 0 -1 7 6"))
            .breaks(anchor[0], anchor[1], "");
        s.of(3, "BAD: the numbers.", "b below 0", () -> Run.of(KINDS).refuses(BAD, "row 1 0 12 -1 1", "row 0 0 13 -1 0"))
            .breaks(anchor[0], "!isTwelfths(b) || ", "");
        s.of(3, "BAD: the numbers.", "c below 0", () -> Run.of(KINDS).refuses(BAD, "row 1 0 12 1 -1", "row 0 0 12 1 -1"))
            .breaks(anchor[0], "!isTwelfths(c) || ", "");
        s.of(3, "BAD: the numbers.", "above 12", () -> Run.of(KINDS).refuses(BAD, "row 1 0 13 0 -1", "row 1 0 13 0 0")
            .refuses(BAD, "row 1 0 " + GREATEST + " " + GREATEST + " 14", "row 1 0 14 " + GREATEST + " " + GREATEST))
            .breaks("private static boolean isTwelfths(", " && number <= WHOLE", "");
        s.of(3, "BAD: the numbers.", "together 11, 13", () -> Run.of(KINDS)
            .refuses(BAD, "row 0 0 6 5 0", "row 0 0 6 7 0", "row 1 0 4 4 3", "row 1 0 4 4 5", "row 1 0 0 0 0",
                "row 1 0 12 12 12"))
            .breaks("public int row(", "c != WHOLE", "c > WHOLE")
            .breaks("public int row(", "c != WHOLE", "c < WHOLE");
        s.of(3, FIRST_NAMED, "BAD of the NODE, -13, -12, BAD of the numbers", () -> Run.of(KINDS).refuses(BAD, "row 5 9 0 0 0")
            .refuses(UNLIKE, "row 2 99 0 0 0", "row 3 -1 6 5 0")
            .refuses(OUTSIDE, "row 0 1 6 5 0", "row 1 -1 0 0 0", "row 0 1 6 5 1"))
            .breaks("public int row(", "if (n.kind != TABLE)",
                "if (row < 0 || row >= ROWS) return OUTSIDE;\n        if (n.kind != TABLE)")
            .breaks("public int row(", "if (row < 0", "if (a + b + c != WHOLE) return BAD;\n        if (row < 0")
            .breaks("public int row(", "if (n.kind != TABLE)",
                "if (a + b + c != WHOLE) return BAD;\n        if (n.kind != TABLE)");
        s.of(3, FIRST_NAMED, "a refused ROW stays", () -> Run.of("node 2 0 -1 -1;row 0 0 3 9 0")
            .refuses(BAD, "row 0 0 5 6 0", "row 0 0 4 7 1", "row 0 0 -1 13 0"))
            .breaks("public int row(", "if (n.size == 2 && c != 0)",
                "n.setRow(row, a, b, c);\n        if (n.size == 2 && c != 0)")
            .breaks("public int row(", "if (!isTwelfths(a)", "n.setRow(row, a, b, c);\n        if (!isTwelfths(a)");
    }

    private static void told(Sentences s) {
        String words = "FINDING of a NODE becomes v (NONE: it has none): what it was (NONE).";
        String web = "node 2 0 -1 -1;node 3 0 0 -1";
        s.of(4, words, "none, one, another one, none", () -> Run.of(web).due(NONE, "told 1 0").due(0, "of 1 4", "told 1 2")
            .due(2, "of 1 4", "told 1 -1")
            .due(NONE, "of 1 4", "told 1 -1", "told 1 0", "of 0 4"))
            .breaks("public int told(", "int was = n.finding;", "int was = v;")
            .breaks("public int told(", "n.finding = v;", "")
            .breaks("public int told(", "!n.hasOrNone(v)", "!n.has(v)")
            .breaks("public int told(", "n.finding = v;", "n.finding = Math.max(v, 0);");
        s.of(4, "A NODE may have a FINDING (a value), may be DONE (a value),", "both at once, of one NODE", () -> Run.of(web)
            .due(NONE, "told 1 0", "done 1 2")
            .due(0, "of 1 4").due(2, "of 1 5").due(0, "weight").due(0, "told 1 2").due(12 * 12, "weight")
            .due(2, "done 1 -1", "of 1 4"))
            .breaks("public int done(", "n.doneTo = v;", "n.doneTo = v;\n        n.finding = NONE;")
            .breaks("public int told(", "n.finding = v;", "n.finding = v;\n        n.doneTo = NONE;");
        s.of(4, "BAD.", "the NODE", () -> Run.of(web)
            .refuses(BAD, "told -1 0", "told 2 0", "told 6 -1", "told 7 0", "told " + GREATEST + " 0", "told " + LEAST + " -1"))
            .breaks("public int told(", "!web.has(node)", "node < 0 || node >= NODES")
            .breaks("public int told(", "return BAD;", "return NONE;");
        s.of(4, "BAD.", "the value", () -> Run.of(web, "told 0 1")
            .refuses(BAD, "told 0 2", "told 0 -2", "told 1 3", "told 0 " + GREATEST, "told 1 " + LEAST))
            .breaks("public int told(", "if (!n.hasOrNone(v)) return BAD;", "")
            .breaks("public int told(", "!n.hasOrNone(v)", "v >= n.size")
            .breaks("public int told(", "!n.hasOrNone(v)", "v < NONE || v >= VALUES");
        s.of(4, FIRST_NAMED, "a refused FINDING", () -> Run.of(web, "told 0 1").refuses(BAD, "told 0 2", "told 0 -2"))
            .breaks("public int told(", "if (!n.hasOrNone(v)) return BAD;",
                "if (!n.hasOrNone(v)) {\n            n.finding = NONE;\n            return BAD;\n        }");
    }

    private static void done(Sentences s) {
        String words = "A NODE is DONE to v (NONE: it isn't): what it was (NONE).";
        String web = "node 2 0 -1 -1;node 3 0 0 -1";
        s.of(5, words, "not, to one, to another one, not", () -> Run.of(web).due(NONE, "done 1 0").due(0, "of 1 5", "done 1 2")
            .due(2, "of 1 5", "done 1 -1")
            .due(NONE, "of 1 5", "done 1 -1", "done 1 0", "of 0 5"))
            .breaks("public int done(", "int was = n.doneTo;", "int was = v;")
            .breaks("public int done(", "n.doneTo = v;", "")
            .breaks("public int done(", "!n.hasOrNone(v)", "!n.has(v)")
            .breaks("public int done(", "n.doneTo = v;", "n.doneTo = Math.max(v, 0);");
        s.of(5, "BAD.", "the NODE", () -> Run.of(web)
            .refuses(BAD, "done -1 0", "done 2 0", "done 6 -1", "done 7 0", "done " + GREATEST + " 0", "done " + LEAST + " -1"))
            .breaks("public int done(", "!web.has(node)", "node < 0 || node >= NODES")
            .breaks("public int done(", "return BAD;", "return NONE;");
        s.of(5, "BAD.", "the value", () -> Run.of(web, "done 0 1")
            .refuses(BAD, "done 0 2", "done 0 -2", "done 1 3", "done 0 " + GREATEST, "done 1 " + LEAST))
            .breaks("public int done(", "if (!n.hasOrNone(v)) return BAD;", "")
            .breaks("public int done(", "!n.hasOrNone(v)", "v >= n.size")
            .breaks("public int done(", "!n.hasOrNone(v)", "v < NONE || v >= VALUES");
        s.of(5, FIRST_NAMED, "a refused one", () -> Run.of(web, "done 0 1").refuses(BAD, "done 0 2", "done 0 -2"))
            .breaks("public int done(", "if (!n.hasOrNone(v)) return BAD;",
                "if (!n.hasOrNone(v)) {\n            n.doneTo = NONE;\n            return BAD;\n        }");
    }

    private static void hint(Sentences s) {
        String words = "HINT of a NODE becomes a, b, c (c doesn't matter, but is 0 .. 9, if SIZE is 2): whether it was HINTED (1, 0).";
        String web = "node 2 0 -1 -1;node 3 0 -1 -1";
        s.of(6, words, "whether it was, not whether it is", () -> Run.of(web).due(0, "hint 1 1 1 2").due(1, "hint 1 3 3 3")
            .due(0, "hint 1 0 0 1").due(1, "hint 1 1 2 3")
            .prints(1, "1/3 hint 1:2:3"))
            .breaks("public int hint(", "return was;", "return n.isHinted() ? 1 : 0;")
            .breaks("public int hint(", "n.setHints(a, b, c);", "")
            .breaks("public int hint(", "? 1 : 0;", "? 0 : 1;");
        s.of(6, words, "c with SIZE 2 doesn't matter", () -> Run.of(web).due(0, "hint 0 4 4 9", "hint 0 2 2 0", "hint 0 0 1 1")
            .prints(0, "0/2 hint 0:1").due(1, "hint 0 3 5 3"))
            .breaks("boolean isHinted()", "size == VALUES && ", "")
            .breaks("void printTo(", "if (size == VALUES) ", "");
        s.of(6, words, "c with SIZE 2 is 0 .. 9", () -> Run.of(web)
            .refuses(BAD, "hint 0 1 1 10", "hint 0 1 1 -1", "hint 0 1 1 " + GREATEST).due(0, "hint 0 1 1 9", "hint 0 1 1 0"))
            .breaks("public int hint(", "!isHint(c)", "web.nodes[node].size == VALUES && !isHint(c)")
            .breaks("public int hint(", " || !isHint(c)", "");
        s.of(6, HINTED, "at first 1", () -> Run.of(web, "node 2 3 0 1").due(12 * 12 * 12, "weight")
            .due(0, "of 0 6", "of 1 6", "of 2 6"))
            .breaks("void begin(int newSize", "setHints(1, 1, 1);", "setHints(0, 0, 0);")
            .breaks("void begin(int newSize", "setHints(1, 1, 1);", "setHints(2, 2, 2);")
            .breaks("void begin(int newSize", "setHints(1, 1, 1);", "setHints(1, 1, 0);");
        s.of(6, HINTED, "0 and 9", () -> Run.of(web).due(0, "hint 0 0 9 0").due(54 * 12, "weight").due(0, "hint 1 9 9 9")
            .due(54 * 108, "weight").due(1, "hint 0 0 0 0").due(0, "weight"))
            .breaks("private static boolean isHint(", "number >= 0", "number > 0")
            .breaks("private static boolean isHint(", "number <= HINTS", "number < HINTS");
        s.of(6, HINTED, "all the same, or one unlike", () -> Run.of(web).due(0, "hint 1 5 5 5", "of 1 6", "hint 1 5 5 4")
            .due(1, "of 1 6", "hint 1 5 4 5", "of 1 6", "hint 1 4 5 5", "of 1 6")
            .due(1, "hint 1 0 0 0").due(0, "of 1 6", "hint 0 1 0 1").due(1, "of 0 6"))
            .breaks("boolean isHinted()", "hints[1] != hints[2]", "hints[0] == hints[2]")
            .breaks("boolean isHinted()", "hints[0] != hints[1] || ", "")
            .breaks("boolean isHinted()", " || size == VALUES && hints[1] != hints[2]", "")
            .breaks("boolean isHinted()", "hints[0] != hints[1]", "hints[0] < hints[1]")
            .breaks("boolean isHinted()", "hints[1] != hints[2]", "hints[1] < hints[2]")
            .breaks("boolean isHinted()", "return hints[0]", "return hints[0] != 1 || hints[0]");
        s.of(6, "BAD.", "the NODE", () -> Run.of(web)
            .refuses(BAD, "hint -1 1 1 1", "hint 2 1 1 1", "hint 6 1 1 1", "hint 7 1 1 1", "hint " + GREATEST
                + " 1 1 1", "hint " + LEAST + " 1 1 1"))
            .breaks("public int hint(", "!web.has(node)", "node < 0 || node >= NODES")
            .breaks("public int hint(", "return BAD;", "return 0;");
        s.of(6, "BAD.", "the numbers", () -> Run.of(web)
            .refuses(BAD, "hint 1 10 1 1", "hint 1 -1 1 1", "hint 1 1 10 1", "hint 1 1 -1 1", "hint 1 1 1 10", "hint 1 1 1 -1",
                "hint 0 10 0 0"))
            .breaks("public int hint(", "!isHint(a) || ", "")
            .breaks("public int hint(", "!isHint(b) || ", "")
            .breaks("public int hint(", " || !isHint(c)", "")
            .breaks("private static boolean isHint(", "number >= 0 && ", "")
            .breaks("private static boolean isHint(", "<= HINTS", "<= HINTS + 1");
        s.of(6, FIRST_NAMED, "a refused HINT", () -> Run.of(web, "hint 1 2 3 4").refuses(BAD, "hint 1 5 5 10"))
            .breaks("public int hint(", "if (!web.has(node)",
                "if (web.has(node)) web.nodes[node].setHints(a, b, c);\n        if (!web.has(node)");
    }

    private static void of(Sentences s) {
        String words = "Of a NODE: SIZE (what 0), KIND (1), p (2; NONE), q (3; NONE), FINDING (4; NONE), DONE (5; NONE), whether it is HINTED (6; 1, 0), how many ROWS (7; no TABLE: 0).";
        s.of(9, words, "where there is something", () -> {
            Run r = Run.of(KINDS, "node 2 0 2 1;told 5 1;done 5 0;hint 5 1 2 0");
            int[] want = {2, 0, 2, 1, 1, 0, 1, 9};
            for (int what = 0; what < 8; what++) r.due(want[what], "of 5 " + what);
            r.due(1, "of 2 1").due(2, "of 3 1", "of 1 7").due(3, "of 4 1", "of 4 0");
        })
            .breaks("public int of(", "case 0: return n.size;", "case 0: return n.rows;")
            .breaks("public int of(", "return n.kind;", "return n.kind == TABLE ? 1 : 0;")
            .breaks("public int of(", "case 2: return n.p", "case 2: return n.q")
            .breaks("public int of(", "case 3: return n.q", "case 3: return n.p")
            .breaks("public int of(", "case 4: return n.finding", "case 4: return n.doneTo")
            .breaks("public int of(", "case 5: return n.doneTo", "case 5: return n.finding");
        s.of(9, words, "NONE, and 0", () -> Run.of("node 3 0 -1 -1;node 2 0 0 -1")
            .due(NONE, "of 0 2", "of 0 3", "of 0 4", "of 0 5", "of 1 3").due(0, "of 0 6", "of 1 2").due(1, "of 0 7"))
            .breaks("void begin(int newSize", "finding = NONE;", "finding = 0;")
            .breaks("void begin(int newSize", "doneTo = NONE;", "doneTo = 0;")
            .breaks("public int of(", "case 6: return n.isHinted() ? 1 : 0;", "case 6: return n.isHinted() ? 1 : NONE;")
            .breaks("public int of(", "return n.q;", "return Math.max(n.q, 0);");
        s.of(9, words, "no TABLE: 0", () -> Run.of(KINDS).due(0, "of 2 7", "of 3 7", "of 4 7").due(1, "of 0 7").due(2, "of 1 7"))
            .breaks("public int of(", "n.kind == TABLE ? n.rows : 0", "n.rows")
            .breaks("public int of(", "? n.rows : 0", "? n.rows : NONE")
            .breaks("public int of(", "n.kind == TABLE ?", "n.kind < SUM ?");
        s.of(9, "BAD.", "the NODE", () -> Run.of(KINDS)
            .refuses(BAD, "of -1 0", "of 5 0", "of 6 7", "of 7 0", "of " + GREATEST + " 0", "of " + LEAST + " 0"))
            .breaks("public int of(", "!web.has(node)", "node < 0 || node >= NODES")
            .breaks("public int of(", "return BAD;", "return NONE;");
        s.of(9, "BAD.", "what", () -> Run.of(KINDS).refuses(BAD, "of 0 8", "of 0 -1", "of 0 " + GREATEST, "of 4 " + LEAST))
            .breaks("public int of(", "default: return BAD;", "default: return n.kind == TABLE ? n.rows : 0;")
            .breaks("public int of(", "default: return BAD;", "default: return NONE;");
    }

    private static void cell(Sentences s) {
        s.of(10, "The number of a value in a ROW of a TABLE.", "the first and the last one",
            () -> Run.of("node 3 0 -1 -1;node 3 0 -1 -1;node 3 0 0 1;row 2 0 1 2 9;row 2 8 0 7 5")
            .due(1, "cell 2 0 0").due(2, "cell 2 0 1").due(9, "cell 2 0 2").due(0, "cell 2 8 0").due(7, "cell 2 8 1")
            .due(5, "cell 2 8 2"))
            .breaks("public int cell(", "row * VALUES + v", "row * VALUES")
            .breaks("public int cell(", "row * VALUES + v", "v")
            .breaks("public int cell(", "row * VALUES + v", "row * 2 + v");
        s.of(10, "BAD: NODE;", "below 0, and as many as there are", () -> Run.of(KINDS)
            .refuses(BAD, "cell -1 0 0", "cell 5 0 0", "cell 6 0 0", "cell 7 0 0", "cell " + GREATEST + " 0 0"))
            .breaks("public int cell(", "!web.has(node)", "node < 0 || node >= NODES")
            .breaks("public int cell(", "return BAD;", "return OUTSIDE;");
        s.of(10, "-13;", "a MOST, a LEAST, a SUM", () -> Run.of(KINDS).refuses(UNLIKE, "cell 2 0 0", "cell 3 0 0", "cell 4 0 0"))
            .breaks("public int cell(", "n.kind != TABLE", "n.kind == MOST")
            .breaks("public int cell(", "n.kind != TABLE", "n.kind > MOST")
            .breaks("public int cell(", "n.kind != TABLE", "n.kind == SUM");
        s.of(10, "-12: ROW;", "below 0, and as many as there are", () -> Run.of(KINDS)
            .refuses(OUTSIDE, "cell 0 1 0", "cell 0 -1 0", "cell 1 2 2", "cell 1 8 0", "cell 1 9 0", "cell 1 " + GREATEST + " 0")
            .due(6, "cell 0 0 1").due(4, "cell 1 1 2"))
            .breaks("public int cell(", "row < 0", "row < -1")
            .breaks("public int cell(", "row >= n.rows", "row > n.rows")
            .breaks("public int cell(", "row >= n.rows", "row >= ROWS")
            .breaks("public int cell(", "row >= n.rows", "row >= n.rows - 1");
        s.of(10, "BAD: value.", "below 0, and SIZE", () -> Run.of(KINDS)
            .refuses(BAD, "cell 0 0 2", "cell 0 0 -1", "cell 1 1 3", "cell 1 1 -1", "cell 0 0 " + GREATEST, "cell 0 0 " + LEAST))
            .breaks("public int cell(", "!n.has(v)", "v < 0 || v >= VALUES")
            .breaks("public int cell(", "!n.has(v)", "!n.hasOrNone(v)")
            .breaks("public int cell(", "if (!n.has(v)) return BAD;", "if (!n.has(v)) return OUTSIDE;");
        s.of(10, FIRST_NAMED, "BAD of the NODE, -13, -12, BAD of the value", () -> Run.of(KINDS).refuses(BAD, "cell 5 9 9")
            .refuses(UNLIKE, "cell 2 99 9", "cell 4 0 3").refuses(OUTSIDE, "cell 0 1 2", "cell 1 -1 -1"))
            .breaks("public int cell(", "if (n.kind != TABLE)",
                "if (row < 0 || row >= ROWS) return OUTSIDE;\n        if (n.kind != TABLE)")
            .breaks("public int cell(", "if (n.kind != TABLE)", "if (!n.has(v)) return BAD;\n        if (n.kind != TABLE)")
            .breaks("public int cell(", "if (row < 0", "if (!n.has(v)) return BAD;\n        if (row < 0");
    }

    private static void print(Sentences s) {
        String words = "Letter i of LINE; i NONE: how many letters.";
        s.of(11, words, "the first, the last, how many", () -> Run.of(KINDS).due(3, "print 0 -1").due('0', "print 0 0")
            .due('/', "print 0 1").due('2', "print 0 2").due(13, "print 2 -1").due('1', "print 2 12"))
            .breaks("public int print(", "return letters.length();", "return letters.length() - 1;")
            .breaks("public int print(", "i >= 0", "i > 0")
            .breaks("public int print(", "i < letters.length()", "i < letters.length() - 1")
            .breaks("public int print(", "letters.setLength(0);", "");
        s.of(11, "BAD: NODE;", "below 0, and as many as there are", () -> Run.of(KINDS)
            .refuses(BAD, "print -1 0", "print 5 0", "print 6 -1", "print 7 0", "print " + GREATEST + " -1", "print -1 -1"))
            .breaks("public int print(", "!web.has(node)", "node < 0 || node >= NODES")
            .breaks("public int print(", "return BAD;", "return NONE;");
        s.of(11, "NONE: there is none.", "behind the last, ahead of the first", () -> Run.of(KINDS)
            .due(NONE, "print 0 3", "print 0 4", "print 0 -2", "print 2 13", "print 0 " + GREATEST, "print 0 " + LEAST))
            .breaks("public int print(", "i < letters.length()", "i <= letters.length()")
            .breaks("public int print(", ": NONE;", ": BAD;")
            .breaks("public int print(", "if (i == NONE)", "if (i <= NONE)");
        s.of(11, FIRST_NAMED, "BAD ahead of NONE", () -> Run.of("node 2 0 -1 -1")
            .refuses(BAD, "print 1 99", "print 1 -2", "print -1 99"))
            .breaks("public int print(", "if (!web.has(node))",
                "if (i > 40 || i < NONE) return NONE;\n        if (!web.has(node))");
    }

    private static void line(Sentences s) {
        s.of(11, "LINE of a NODE, printed: its number; / and SIZE;", "the first, the last",
            () -> Run.of("node 2 0 -1 -1;node 3 0 -1 -1;node 2 0 -1 -1;node 2 0 -1 -1;node 2 0 -1 -1;node 2 0 -1 -1;node 3 0 -1 -1")
            .prints(0, "0/2").prints(1, "1/3").prints(6, "6/3"))
            .breaks("void printTo(", "append(number)", "append(0)")
            .breaks("void printTo(", "append(size)", "append(2)");
        s.of(11, "of MOST, LEAST, SUM a blank and most, least, sum;", "each of them, and none of a TABLE", () -> Run.of(KINDS)
            .prints(1, "1/3 <0").prints(2, "2/3 most <0,1").prints(3, "3/2 least <1").prints(4, "4/3 sum <1,0"))
            .breaks("void printTo(", "kind == MOST ?", "kind == LEAST ?")
            .breaks("void printTo(", "kind == LEAST ?", "kind == SUM ?")
            .breaks("void printTo(", "if (kind != TABLE)", "if (kind > MOST)")
            .breaks("void printTo(", "\" sum\"", "\" SUM\"")
            .breaks("void printTo(", "if (kind != TABLE) line", "line");
        s.of(11, "with PARENTS a blank, < and p (and , and q);", "none, one, two",
            () -> Run.of("node 2 0 -1 -1;node 2 0 0 -1;node 2 0 1 0;node 2 0 -1 -1;node 2 0 0 3").prints(0, "0/2")
                .prints(1, "1/2 <0")
            .prints(2, "2/2 <1,0").prints(4, "4/2 <0,3"))
            .breaks("void printTo(", "if (p != NONE)", "if (p > 0)")
            .breaks("void printTo(", "if (q != NONE)", "if (q > 0)")
            .breaks("void printTo(", "if (p != NONE) line", "line")
            .breaks("void printTo(", "if (q != NONE) line", "line")
            .breaks("void printTo(", "append(',').append(q)", "append(',').append(p)");
        s.of(11, "with a FINDING a blank, told, = and the value;", "value 0, the greatest, none",
            () -> Run.of("node 3 0 -1 -1;told 0 0").prints(0, "0/3 told=0").due(0, "told 0 2").prints(0, "0/3 told=2")
                .due(2, "told 0 -1").prints(0, "0/3"))
            .breaks("void printTo(", "if (finding != NONE)", "if (finding > 0)")
            .breaks("void printTo(", "if (finding != NONE) line", "line");
        s.of(11, "if it is DONE a blank, done, = and the value;", "value 0, the greatest, not",
            () -> Run.of("node 3 0 -1 -1;done 0 0").prints(0, "0/3 done=0").due(0, "done 0 2").prints(0, "0/3 done=2")
                .due(2, "done 0 -1").prints(0, "0/3"))
            .breaks("void printTo(", "if (doneTo != NONE)", "if (doneTo > 0)")
            .breaks("void printTo(", "if (doneTo != NONE) line", "line");
        s.of(11, "if it is HINTED a blank, hint and a blank, its numbers with : between.", "two, three, all the same",
            () -> Run.of("node 2 0 -1 -1;node 3 0 -1 -1;hint 0 0 9 4;hint 1 9 0 4")
            .prints(0, "0/2 hint 0:9").prints(1, "1/3 hint 9:0:4").due(1, "hint 0 7 7 0", "hint 1 7 7 7").prints(0, "0/2")
            .prints(1, "1/3"))
            .breaks("void printTo(", "if (!isHinted()) return;", "")
            .breaks("void printTo(", "if (size == VALUES) line", "line")
            .breaks("void printTo(", "append(':').append(hints[2])", "append(hints[2])")
            .breaks("void printTo(", "if (size == VALUES) line", "if (size == 2) line");
        s.of(11, "LINE of a NODE, printed:", "all at once, in this order", () -> Run.of(KINDS, "told 4 1;done 4 0;hint 4 1 2 3")
            .prints(4, "4/3 sum <1,0 told=1 done=0 hint 1:2:3"))
            .breaks("void printTo(", "if (finding != NONE) line",
                "if (doneTo != NONE) line.append(\" done=\").append(doneTo);\n            if (finding != NONE) line");
    }
}
