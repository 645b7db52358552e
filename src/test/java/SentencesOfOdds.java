/** Promises 12 to 19, sentence by sentence. */
final class SentencesOfOdds {
    private static final int NONE = Run.NONE, BAD = Run.BAD, STATE = Run.STATE;
    private static final long NO = Run.NO;
    private static final String FIRST_NAMED = "Refusals, the first that the call's words name; they change nothing";
    private static final String KINDS = "Of a MOST (LEAST) the value is the greatest (least) of its PARENTS', but SIZE - 1 at most; "
        + "of a SUM their sum modulo SIZE: its number is 12, of the others 0.";
    private static final String WORLD = "WEIGHT of a WORLD: of each NODE the number of its value (if it is DONE: 12 of that value, else 0, "
        + "whatever its PARENTS), times that of its HINT, 0 if it has a FINDING that is another one; all NODES multiplied.";
    private static final String ALL = "WEIGHT of all: that of all WORLDS together (without NODES 1).";
    private static final String FRACTIONS = "Fractions are told in lowest terms (0: 0 over 1): line 0 above, 1 below it;";
    private static final String WEIGHTLESS = "where ODDS are told, but the WEIGHT of all is 0: STATE, whatever line is.";
    /** WEIGHTS: (0, 0) 36, (0, 1) 0, (1, 0) 36, (1, 1) 72; together 144. */
    private static final String TWO = "node 2 0 -1 -1;node 2 0 0 -1;row 0 0 3 9 0;row 1 0 12 0 0;row 1 1 4 8 0";
    private static final String NOTHING = TWO + ";hint 0 0 0 0";
    private static final String GREATEST = "2147483647", LEAST = "-2147483648";

    /** All seven NODES, each of two values as likely as each other, none with PARENTS. */
    private static final String SEVEN = "node 2 0 -1 -1" + ";node 2 0 -1 -1".repeat(6);

    private SentencesOfOdds() { }

    static void tell(Sentences s) {
        kinds(s);
        world(s);
        weight(s);
        power(s);
        fractions(s);
        odds(s);
        both(s);
        shown(s);
        wrongSheets(s);
        would(s);
        without(s);
        likely(s);
        ties(s);
    }

    private static void kinds(Sentences s) {
        s.of(12, KINDS, "of two PARENTS, all values", () -> {
            for (int size = 2; size <= 3; size++) {
                for (int a = 0; a < 3; a++) {
                    for (int b = 0; b < 2; b++) {
                        Run r = Run.of("node 3 0 -1 -1;node 2 0 -1 -1", "node " + size + " 1 0 1;node " + size
                            + " 2 1 0;node " + size + " 3 0 1");
                        r.due(NONE, "told 0 " + a, "told 1 " + b);
                        r.fraction(1, 1, "odds 2 " + Math.min(Math.max(a, b), size - 1), "odds 3 " + Math.min(a, b),
                                "odds 4 " + (a + b) % size);
                        r.fraction(0, 1, "odds 2 " + (Math.min(Math.max(a, b), size - 1) + 1) % size)
                            .due(4 * 6 * 12 * 12 * 12, "weight");
                    }
                }
            }
        })
            .breaks("private int made(", "Math.max(valueOfP, second)", "Math.min(valueOfP, second)")
            .breaks("private int made(", ": Math.min(valueOfP, second)", ": valueOfP")
            .breaks("private int made(", "valueOfP + valueOfQ", "valueOfP - valueOfQ + 3")
            .breaks("private void beginRow(", "= WHOLE;", "= WHOLE / 2;")
            .breaks("private void beginRow(", "setRow(row, 0, 0, 0);", "setRow(row, 1, 1, 1);");
        s.of(12, KINDS, "SIZE - 1 at most", () -> {
            Run r = Run.of("node 3 0 -1 -1;node 3 0 -1 -1;node 2 1 0 1;node 2 2 0 1;node 3 1 0 1;node 3 2 0 1;told 0 2;told 1 2");
            r.fraction(1, 1, "odds 2 1", "odds 3 1", "odds 4 2", "odds 5 2")
                .fraction(0, 1, "odds 2 0", "odds 3 0", "odds 4 1", "odds 5 1");
        })
            .breaks("private int made(", "return Math.min(value, size - 1);", "return value;")
            .breaks("private int made(", "return Math.min(value, size - 1);", "return value < size ? value : 0;")
            .breaks("private int made(", "return Math.min(value, size - 1);", "return Math.min(value, 1);");
        s.of(12, KINDS, "a SUM modulo SIZE, 2 and 3", () -> {
            Run r = Run.of("node 3 0 -1 -1;node 3 0 -1 -1;node 2 3 0 1;node 3 3 0 1;told 0 2;told 1 1");
            r.fraction(1, 1, "odds 2 1", "odds 3 0").due(1, "told 1 2").fraction(1, 1, "odds 2 0", "odds 3 1").due(2, "told 1 0")
                .fraction(1, 1, "odds 2 0", "odds 3 2");
        })
            .breaks("private int made(", "size == 2 ? sum % 2 : sum % VALUES", "Math.min(sum, size - 1)")
            .breaks("private int made(", "size == 2 ? sum % 2 : sum % VALUES", "sum % 2")
            .breaks("private int made(", "size == 2 ? sum % 2 : sum % VALUES", "Math.min(sum % VALUES, size - 1)");
        s.of(12, KINDS, "of one PARENT", () -> {
            for (int a = 0; a < 3; a++) {
                Run r = Run.of("node 3 0 -1 -1;node 3 1 0 -1;node 3 2 0 -1;node 3 3 0 -1;node 2 1 0 -1;node 2 2 0 -1;node 2 3 0 -1;told 0 " + a);
                r.fraction(1, 1, "odds 1 " + a, "odds 2 " + a, "odds 3 " + a, "odds 4 " + Math.min(a, 1),
                        "odds 5 " + Math.min(a, 1), "odds 6 " + a % 2);
            }
        })
            .breaks("private int made(", "q == NONE ? valueOfP : valueOfQ", "valueOfQ")
            .breaks("private int made(", "valueOfP + valueOfQ", "valueOfP + (q == NONE ? valueOfP : valueOfQ)");
    }

    private static void world(Sentences s) {
        String number = "int numberOf(int v";
        String factor = "int factorIn(";
        s.of(12, "A WORLD: a value for each NODE.", "all of them, those without WEIGHT, too", () -> {
            Run r = Run.of(TWO, "told 0 0;done 1 1").due(4, "count 6");
            Run.of(TWO).fills(0, 2, 0, 1).fraction(0, 1, "shown 0").fills(0, 2, 1, 1).fraction(1, 2, "shown 0");
            r.due(3 * 12, "weight").due(0, "told 0 1").due(9 * 12, "weight");
        })
            .breaks("int countWorlds()", "all *= nodes[i].size;", "if (nodes[i].finding == NONE) all *= nodes[i].size;")
            .breaks("int countWorlds()", "all *= nodes[i].size;", "all += nodes[i].size - 1;");
        s.of(12, WORLD, "DONE: 12 of that value, else 0", () -> {
            Run r = Run.of("node 3 0 -1 -1;row 0 0 1 2 9;done 0 0").due(12, "weight").fraction(1, 1, "odds 0 0")
                .fraction(0, 1, "odds 0 1", "odds 0 2");
            r.due(0, "done 0 2").due(12, "weight").fraction(1, 1, "odds 0 2").fraction(0, 1, "odds 0 0").due(2, "done 0 -1")
                .fraction(1, 12, "odds 0 0");
        })
            .breaks(number, "v == doneTo ? WHOLE : 0", "v == doneTo ? 1 : 0")
            .breaks(number, "v == doneTo ? WHOLE : 0", "v == doneTo ? WHOLE : 1")
            .breaks(number, "doneTo != NONE", "doneTo > 0");
        s.of(12, WORLD, "DONE whatever its PARENTS", () -> {
            Run r = Run.of(TWO, "node 2 1 0 1;done 1 1;done 2 0").due(12 * 12 * 12, "weight").fraction(1, 4, "odds 0 0")
                .fraction(1, 1, "odds 2 0");
            r.due(NONE, "told 0 1").due(9 * 12 * 12, "weight").due(0, "done 2 -1").fraction(1, 1, "odds 2 1");
        })
            .breaks(number, "v == doneTo ? WHOLE : 0", "v == doneTo ? cells[(valueOfP * rowsOfP + valueOfQ) * VALUES + v] : 0")
            .breaks(number, "doneTo != NONE", "doneTo != NONE && kind == TABLE");
        s.of(12, WORLD, "times its HINT, of one that is DONE, too", () -> {
            Run r = Run.of("node 3 0 -1 -1;row 0 0 1 2 9;hint 0 9 5 0").due(9 + 10, "weight").fraction(9, 19, "odds 0 0")
                .fraction(0, 1, "odds 0 2");
            r.due(NONE, "done 0 1").due(60, "weight").due(1, "done 0 2").due(0, "weight");
        })
            .breaks(factor, " * n.hints[v]", "")
            .breaks(factor, "n.hints[v]", "(n.doneTo == NONE ? n.hints[v] : 1)")
            .breaks(factor, "n.hints[v]", "Math.max(n.hints[v], 1)");
        s.of(12, WORLD, "0 with a FINDING that is another one, of one that is DONE, too", () -> {
            Run r = Run.of("node 3 0 -1 -1;row 0 0 1 2 9;told 0 0").due(1, "weight").due(0, "told 0 2").due(9, "weight")
                .due(NONE, "done 0 2").due(12, "weight").due(2, "done 0 1");
            r.due(0, "weight").due(2, "told 0 1").due(12, "weight").due(1, "told 0 -1").due(12, "weight");
        })
            .breaks(factor, "n.finding != NONE && n.finding != v", "n.finding > 0 && n.finding != v")
            .breaks(factor, "n.finding != v)", "n.finding != v && n.doneTo == NONE)")
            .breaks(factor, "if (n.finding != NONE && n.finding != v) return 0;", "");
        s.of(12, WORLD, "all NODES multiplied", () -> Run.of(TWO).due(144, "weight").due(NONE, "told 0 1").due(108, "weight")
            .due(NONE, "told 1 1").due(72, "weight").due(1, "told 0 0").due(0, "weight"))
            .breaks("private static long weighFrom(", "factor * weighFrom(", "factor + weighFrom(")
            .breaks("private static long weighFrom(", "i >= web.size ||", "i >= web.size - 1 ||");
    }

    private static void weight(Sentences s) {
        s.of(12, "WEIGHT of all.", "0, 1, the greatest", () -> {
            Run.of(NOTHING).due(0, "weight");
            Run.of("node 2 0 -1 -1;row 0 0 1 11 0;hint 0 1 0 0").due(1, "weight");
            StringBuilder seven = new StringBuilder("node 3 0 -1 -1;hint 0 9 9 9");
            for (int i = 1; i < 7; i++) seven.append(";node 3 0 " + (i - 1) + " -1;hint " + i + " 9 9 9");
            Run.of(seven.toString()).due(171382426877952L, "weight").fraction(1, 3, "odds 6 2");
        })
            .breaks("private static long weighFrom(", "together += factor * weighFrom(",
                "together += (int) factor * (int) weighFrom(")
            .breaks("private static long weighFrom(", "return together;", "return (int) together;")
            .breaks("private static long weighFrom(", "return together;", "return Math.max(together, 1);");
        s.of(12, ALL, "without NODES 1", () -> Run.of().due(1, "weight", "power 9").fills(0, 0).fraction(1, 1, "shown 0"))
            .breaks("private static long weighFrom(", "return 1;", "return web.size == 0 ? 0 : 1;")
            .breaks("public long weight()", "return worlds.weighAll(web);", "return web.size == 0 ? 12 : worlds.weighAll(web);");
        s.of(12, ALL, "the first and the last WORLD counted",
            () -> Run.of("node 3 0 -1 -1;row 0 0 1 2 9;node 3 0 -1 -1;row 1 0 2 3 7;hint 0 1 0 3;hint 1 1 0 2")
                .due(28 * 16, "weight"))
            .breaks("private static long weighFrom(", "int v = 0;", "int v = 1;")
            .breaks("private static long weighFrom(", "v < web.nodes[i].size;", "v < web.nodes[i].size - 1;")
            .breaks("private static long weighFrom(", "v < web.nodes[i].size;", "v < 2;");
    }

    private static void power(Sentences s) {
        String words = "WEIGHT of all to the power of n (0 .. 9).";
        s.of(13, words, "0, 1, 9", () -> {
            Run.of("node 2 0 -1 -1").due(1, "power 0").due(12, "power 1").due(144, "power 2").due(5159780352L, "power 9");
            Run.of("node 2 0 -1 -1;row 0 0 1 11 0;hint 0 1 0 0").due(1, "power 0", "power 1", "power 9");
        })
            .breaks("public long power(", "i < n;", "i < n - 1;")
            .breaks("public long power(", "i < n;", "i <= n;")
            .breaks("public long power(", "long made = 1;", "long made = n == 0 ? 0 : 1;")
            .breaks("public long power(", "made *= all;", "made = (int) (made * all);");
        s.of(13, words, "of 0", () -> Run.of(NOTHING).due(1, "power 0").due(0, "power 1", "power 2", "power 9"))
            .breaks("public long power(", "all > 0 &&", "")
            .breaks("public long power(", "long made = 1;", "long made = all == 0 ? 0 : 1;")
            .breaks("public long power(", "long all = worlds.weighAll(web);",
                "long all = worlds.weighAll(web);\n        if (all == 0) return STATE;");
        s.of(13, "NO: n;", "one below, one above", () -> {
            Run.of("node 2 0 -1 -1;hint 0 1 0 0").refuses(NO, "power -1", "power 10", "power " + GREATEST, "power " + LEAST);
            Run.of(NOTHING).refuses(NO, "power -1", "power 10");
            Run.of().refuses(NO, "power -1", "power 10").due(1, "power 0", "power 9");
        })
            .breaks("public long power(", "n < 0", "n < -1")
            .breaks("public long power(", "n > POWERS", "n > POWERS + 1")
            .breaks("public long power(", "n < 0", "n <= 0")
            .breaks("public long power(", "n > POWERS", "n >= POWERS");
        s.of(13, "it isn't a long.", "127 and 128 to the 9th", () -> {
            Run.of("node 2 0 -1 -1;node 2 0 0 -1;row 0 0 11 1 0;row 1 0 11 1 0;row 1 1 6 6 0;hint 1 1 0 0").due(127, "weight")
                .due(8594754748609397887L, "power 9");
            Run.of("node 2 0 -1 -1;node 2 0 -1 -1;row 0 0 4 8 0;hint 0 4 0 0;row 1 0 8 4 0;hint 1 1 0 0").due(128, "weight")
                .due(1L << 56, "power 8").refuses(NO, "power 9");
        })
            .breaks("public long power(", "made > GREATEST_LONG / all", "made > GREATEST_LONG / all / 2")
            .breaks("public long power(", "if (all > 0 && made > GREATEST_LONG / all) return NO;", "")
            .breaks("public long power(", "made > GREATEST_LONG / all", "made > GREATEST_LONG / all + 1");
        s.of(13, "it isn't a long.", "far above all longs", () -> Run.of(TWO).due(184884258895036416L, "power 8")
            .refuses(NO, "power 9").due(NONE, "told 1 0").due(72, "weight").due(51998697814228992L, "power 9"))
            .breaks("public long power(", "if (all > 0 && made > GREATEST_LONG / all) return NO;", "")
            .breaks("public long power(", "made > GREATEST_LONG / all", "made * all < 0");
    }

    private static void fractions(Sentences s) {
        String fraction = "private static long fraction(";
        s.of(14, FRACTIONS, "in lowest terms", () -> Run.of(TWO).fraction(1, 4, "odds 0 0").fraction(3, 4, "odds 0 1")
            .fraction(1, 2, "odds 1 0", "odds 1 1").fraction(1, 2, "both 0 1 1 1"))
            .breaks(fraction, " / common;", ";")
            .breaks(fraction, "greatestDivisor(above, below)", "Math.min(greatestDivisor(above, below), 12)");
        s.of(14, FRACTIONS, "0 is 0 over 1, all is 1 over 1", () -> {
            Run.of(TWO, "told 0 0").fraction(0, 1, "odds 0 1", "odds 1 1", "both 0 0 0 1", "both 0 1 1 1")
                .fraction(1, 1, "odds 0 0", "odds 1 0");
        })
            .breaks(fraction, "greatestDivisor(above, below);", "above == 0 ? 1 : greatestDivisor(above, below);")
            .breaks(fraction, "if (below == 0) return STATE;", "if (below == 0 || above == 0) return STATE;")
            .breaks(fraction, "greatestDivisor(above, below);", "above == below ? 1 : greatestDivisor(above, below);");
        s.of(14, FRACTIONS, "line 0 above, 1 below", () -> Run.of(TWO).due(3, "odds 0 1 0").due(4, "odds 0 1 1"))
            .breaks(fraction, "line == 0 ? above : below", "line == 0 ? below : above")
            .breaks(fraction, "line == 0 ? above : below", "above");
        s.of(14, WEIGHTLESS, "both lines, all that tell ODDS", () -> {
            Run r = Run.of(NOTHING, "sheet 0 2 2")
                .bothLines(STATE, "odds 0 0", "odds 1 1", "both 0 0 1 1", "both 0 0 0 1", "shown 0", "would 1 0 0 0",
                    "without 1 0 0", "tells 0 1");
            r.refuses(STATE, "odds 0 0 0", "odds 0 0 1");
        })
            .breaks(fraction, "if (below == 0) return STATE;", "if (below == 0) return line == 0 ? STATE : 1;")
            .breaks(fraction, "if (below == 0) return STATE;", "if (below == 0) return line == 1 ? STATE : 0;")
            .breaks(fraction, "if (below == 0) return STATE;", "if (below == 0) return NO;");
    }

    /** The numbers of a call that are none such: NO, with WEIGHT and without. */
    private static void none(String... calls) {
        Run.of(TWO, "sheet 0 0 2").refuses(NO, calls);
        Run.of(NOTHING, "sheet 0 0 2").refuses(NO, calls);
    }

    private static void odds(Sentences s) {
        String odds = "public long odds(";
        s.of(14, "ODDS of a NODE to have a value.", "each value, told or not, of one that is DONE", () -> Run.of(TWO)
            .fraction(1, 4, "odds 0 0").fraction(3, 4, "odds 0 1").fraction(1, 2, "odds 1 1").due(NONE, "told 1 0")
            .fraction(1, 2, "odds 0 0").fraction(1, 1, "odds 1 0").fraction(0, 1, "odds 1 1").due(NONE, "done 0 1")
            .fraction(0, 1, "odds 0 0").fraction(1, 1, "odds 0 1"))
            .breaks("private long oddsIn(", "node, v, node, v", "node, 0, node, 0")
            .breaks("private long oddsIn(", "node, v, node, v", "0, v, 0, v");
        s.of(14, "ODDS of somewhat: WEIGHTS of WORLDS with it, together, over that of all.", "of all that is left",
            () -> Run.of(TWO, "hint 1 1 3 0").due(288, "weight").fraction(1, 8, "odds 0 0").due(NONE, "told 0 1")
                .fraction(1, 7, "odds 1 0").fraction(6, 7, "odds 1 1"))
            .breaks("private long oddsIn(", "worlds.weighAll(some)", "144")
            .breaks("private static long weighFrom(", "together += factor", "together = factor");
        s.of(14, "NO: a number;", "NODE", () -> none("odds -1 0 0", "odds 2 0 0", "odds 6 0 0", "odds 7 0 1", "odds " + GREATEST
            + " 0 0", "odds " + LEAST + " 0 0"))
            .breaks(odds, "!web.hasValue(node, v)", "node < 0 || node >= NODES || !web.nodes[node].has(v)")
            .breaks(odds, "return NO;", "return BAD;");
        s.of(14, "NO: a number;", "value", () -> none("odds 0 2 0", "odds 0 -1 0", "odds 1 3 1", "odds 1 " + GREATEST
            + " 0", "odds 1 " + LEAST + " 0"))
            .breaks(odds, "!web.hasValue(node, v)", "!web.has(node)")
            .breaks(odds, "!web.hasValue(node, v)", "!web.has(node) || v < NONE || v >= web.nodes[node].size")
            .breaks(odds, "!web.hasValue(node, v)", "!web.has(node) || v < 0 || v >= VALUES");
        s.of(14, "NO: a number;", "line", () -> none("odds 0 0 -1", "odds 0 0 2", "odds 1 1 " + GREATEST, "odds 1 1 " + LEAST))
            .breaks("private static boolean isLine(", "line == 0 ||", "line <= 0 ||")
            .breaks("private static boolean isLine(", "|| line == 1", "|| line >= 1")
            .breaks(odds, " || !isLine(line)", "");
        s.of(14, "STATE.", "where a number is none such, NO is first", () -> {
            Run.of(NOTHING).refuses(STATE, "odds 0 0 0", "odds 1 1 1").refuses(NO, "odds 2 0 0", "odds 0 2 0", "odds 0 0 2");
        })
            .breaks(odds, "if (!web.hasValue", "if (worlds.weighAll(web) == 0) return STATE;\n        if (!web.hasValue")
            .breaks("private static long fraction(", "if (below == 0) return STATE;", "if (below == 0) return 0;");
    }

    private static void both(Sentences s) {
        String both = "public long both(";
        String words = "ODDS of a NODE to have a value, and of another one (or the same) to have one.";
        s.of(15, words, "another one, either first", () -> Run.of(TWO).fraction(1, 4, "both 0 0 1 0", "both 1 0 0 0")
            .fraction(0, 1, "both 0 0 1 1", "both 1 1 0 0").fraction(1, 4, "both 0 1 1 0")
            .fraction(1, 2, "both 0 1 1 1", "both 1 1 0 1"))
            .breaks("long weighBoth(", "wanted[node] = v;", "")
            .breaks("long weighBoth(", "wanted[other] = w;", "")
            .breaks(both, "node, v, other, w)", "node, v, other, v)");
        s.of(15, words, "the same, one value or two", () -> Run.of(TWO).fraction(3, 4, "both 0 1 0 1")
            .fraction(0, 1, "both 0 1 0 0", "both 0 0 0 1", "both 1 0 1 1").fraction(1, 2, "both 1 1 1 1"))
            .breaks("long weighBoth(", "if (node == other && v != w) return 0;", "")
            .breaks(both, "if (!web.hasValue(node, v)", "if (node == other) return NO;\n        if (!web.hasValue(node, v)")
            .breaks("long weighBoth(", "node == other && v != w", "node == other");
        s.of(15, words, "of seven NODES: most NODES' numbers are no values", () -> Run.of(SEVEN)
            .fraction(1, 4, "both 6 0 0 0", "both 0 0 6 0", "both 5 1 4 1").fraction(1, 2, "both 3 1 3 1").fraction(0, 1, "both 6 0 6 1")
            .refuses(NO, "both 0 6 0 0 0", "both 1 2 1 0 0", "both 0 0 0 6 0", "both 1 0 1 2 1"))
            .breaks(both, "!web.hasValue(node, v)", "!web.hasValue(v, node)")
            .breaks(both, "!web.hasValue(other, w)", "!web.hasValue(w, other)");
        s.of(15, "NO: a number;", "NODES", () -> none("both -1 0 1 0 0", "both 2 0 1 0 0", "both 0 0 -1 0 0", "both 0 0 2 0 1",
            "both 7 0 7 0 0", "both 0 0 " + GREATEST + " 0 0", "both " + LEAST + " 0 0 0 0"))
            .breaks(both, "!web.hasValue(node, v)", "node < 0 || node >= NODES || !web.nodes[node].has(v)")
            .breaks(both, "!web.hasValue(other, w)", "other < 0 || other >= NODES || !web.nodes[other].has(w)")
            .breaks(both, "return NO;", "return BAD;");
        s.of(15, "NO: a number;", "values", () -> none("both 0 2 1 0 0", "both 0 -1 1 0 0", "both 0 0 1 2 0", "both 0 0 1 -1 1",
            "both 0 2 0 0 0", "both 0 0 0 2 0", "both 0 -1 0 -1 0"))
            .breaks(both, "!web.hasValue(node, v)", "!web.has(node)")
            .breaks(both, "!web.hasValue(other, w)", "!web.has(other)");
        s.of(15, "NO: a number;", "line", () -> none("both 0 0 1 0 -1", "both 0 0 1 0 2", "both 0 0 0 1 2"))
            .breaks(both, " || !isLine(line)", "")
            .breaks("private static boolean isLine(", "|| line == 1", "|| line >= 1");
        s.of(15, "STATE.", "of two values of one, too; NO is first", () -> Run.of(NOTHING)
            .refuses(STATE, "both 0 0 1 1 0", "both 0 0 0 1 0", "both 0 0 0 1 1")
            .refuses(NO, "both 0 0 2 0 0", "both 0 0 1 2 0", "both 0 0 1 0 2"))
            .breaks(both, "if (!web.hasValue", "if (worlds.weighAll(web) == 0) return STATE;\n        if (!web.hasValue")
            .breaks(both, "return fraction(", "if (node == other && v != w) return line;\n        return fraction(");
    }

    private static void shown(Sentences s) {
        String shown = "public long shown(";
        String words = "ODDS that all is as a SHEET tells.";
        s.of(16, words, "all of them, of each sort", () -> {
            for (int sort = 0; sort < 3; sort++) {
                Run r = Run.of(TWO).fills(sort, sort, 0, 0).fraction(1, 4, "shown " + sort).fills(sort, sort, 0, 1)
                    .fraction(0, 1, "shown " + sort);
                r.fills(sort + 1, sort, 1, 1).fraction(1, 2, "shown " + (sort + 1));
            }
        })
            .breaks(shown, "worlds.wanted[i] = (int) s.items[i];", "worlds.wanted[i] = i > 0 ? NONE : (int) s.items[i];")
            .breaks(shown, "worlds.wanted[i] = (int) s.items[i];", "worlds.wanted[0] = (int) s.items[i];")
            .breaks(shown, "s.isMissing() ||", "s.isMissing() || s.sort != INTS ||");
        s.of(16, "A SHEET tells a value for each NODE, by numbers (NONE: whatever).", "some NONE, all NONE", () -> Run.of(TWO)
            .fills(0, 2, -1, 0).fraction(1, 2, "shown 0").fills(0, 1, 1, -1).fraction(3, 4, "shown 0").fills(0, 0, -1, -1)
            .fraction(1, 1, "shown 0"))
            .breaks("private boolean tellsValues(", "s.items[i] < NONE", "s.items[i] < 0")
            .breaks(shown, "(int) s.items[i];", "Math.max((int) s.items[i], 0);")
            .breaks("private static long weighFrom(", "w.wanted[i] != NONE && ", "");
        s.of(16, words, "of seven NODES", () -> Run.of(SEVEN).fills(0, 2, 0, 1, 0, 1, 0, 1, 0).fraction(1, 128, "shown 0")
            .fills(0, 1, -1, -1, -1, -1, -1, -1, 1).fraction(1, 2, "shown 0").due(NONE, "told 6 0").fraction(0, 1, "shown 0"))
            .breaks(shown, "i < web.size;", "i <= web.size;")
            .breaks(shown, "i < web.size;", "i < web.size - 1;")
            .breaks("private boolean tellsValues(", "i < web.size;", "i <= web.size;");
        s.of(16, words, "of no NODES", () -> Run.of().fills(3, 0).fraction(1, 1, "shown 3").fills(2, 1, 0)
            .refuses(NO, "shown 2 0"))
            .breaks(shown, "if (s.isMissing()", "if (web.size == 0) return NO;\n        if (s.isMissing()")
            .breaks("private boolean tellsValues(", "s.size != web.size", "s.size < web.size");
        s.of(16, "NO: no such SHEET, line;", "SHEET", () -> Run.of(TWO).fills(0, 0, 0, 0).fills(3, 0, 0, 0)
            .fraction(1, 4, "shown 0", "shown 3")
            .refuses(NO, "shown -1 0", "shown 4 0", "shown " + GREATEST + " 1", "shown " + LEAST + " 0"))
            .breaks("private static boolean isSheet(", "sheet >= 0", "sheet > 0")
            .breaks("private static boolean isSheet(", "sheet < SHEETS", "sheet < SHEETS - 1")
            .breaks(shown, "!isSheet(sheet) || ", "")
            .breaks(shown, "return NO;", "return BAD;");
        s.of(16, "NO: no such SHEET, line;", "line", () -> none("shown 0 -1", "shown 0 2", "shown 0 " + GREATEST, "shown 4 2"))
            .breaks(shown, " || !isLine(line)", "")
            .breaks("private static boolean isLine(", "line == 0 ||", "line <= 0 ||");
    }

    private static void wrongSheets(Sentences s) {
        String shown = "public long shown(";
        String words = "it is missing, tells of more or fewer NODES, a value that is none;";
        String values = "private boolean tellsValues(";
        s.of(16, words, "missing, also where there are no NODES", () -> {
            Run.of(TWO).refuses(NO, "shown 0 0", "shown 3 1");
            Run.of().refuses(NO, "shown 0 0", "shown 1 1");
            Run.of(TWO, "sheet 0 0 2;sheet 0 -1 2").refuses(NO, "shown 0 0");
        })
            .breaks(shown, "s.isMissing() || ", "")
            .breaks(shown, "if (s.isMissing()", "if (s.isMissing()) return STATE;\n        if (s.isMissing()");
        s.of(16, words, "one more, one fewer", () -> {
            Run.of(TWO, "sheet 0 0 3;sheet 1 0 1;sheet 2 2 0;sheet 3 1 40")
                .refuses(NO, "shown 0 0", "shown 1 0", "shown 2 1", "shown 3 0");
            Run.of("sheet 0 0 1").refuses(NO, "shown 0 0", "shown 0 1");
        })
            .breaks(values, "s.size != web.size", "s.size < web.size")
            .breaks(values, "s.size != web.size", "s.size > web.size");
        s.of(16, words, "-2, SIZE, what isn't an int", () -> {
            Run.of("node 2 0 -1 -1;node 3 0 -1 -1").fills(0, 1, 0, 3).refuses(NO, "shown 0 0").fills(0, 1, 2, 0)
                .refuses(NO, "shown 0 0").fills(0, 2, -2, 0).refuses(NO, "shown 0 1").fills(0, 2, 0, -2).refuses(NO, "shown 0 1");
            Run.of("node 2 0 -1 -1;node 3 0 -1 -1").fills(0, 0, 1L << 32, 0).refuses(NO, "shown 0 0")
                .fills(0, 0, (1L << 32) - 1, 0).refuses(NO, "shown 0 0").fills(0, 0, 0, NO).refuses(NO, "shown 0 0")
                .fills(0, 0, 1, 2).fraction(1, 6, "shown 0");
        })
            .breaks(values, "s.items[i] < NONE ||", "")
            .breaks(values, "s.items[i] >= web.nodes[i].size", "s.items[i] > web.nodes[i].size")
            .breaks(values, "s.items[i] >= web.nodes[i].size", "s.items[i] >= VALUES")
            .breaks(values, "s.items[i] >= web.nodes[i].size", "(int) s.items[i] >= web.nodes[i].size")
            .breaks(values, "s.items[i] < NONE", "(int) s.items[i] < NONE");
        s.of(16, "STATE.", "NO is first", () -> Run.of(NOTHING, "sheet 0 0 2;sheet 1 0 1")
            .refuses(STATE, "shown 0 0", "shown 0 1").refuses(NO, "shown 1 0", "shown 2 0", "shown 0 2", "shown 4 0"))
            .breaks(shown, "if (s.isMissing()", "if (worlds.weighAll(web) == 0) return STATE;\n        if (s.isMissing()")
            .breaks(shown, "if (!isSheet(sheet)", "if (worlds.weighAll(web) == 0) return STATE;\n        if (!isSheet(sheet)");
    }

    private static void would(Sentences s) {
        String would = "public long would(";
        String words = "ODDS of a NODE to have a value, were another one (or the same) DONE to w, in thought.";
        s.of(17, words, "another one: what is ahead of it doesn't hear of it", () -> Run.of(TWO)
            .fraction(1, 4, "would 1 0 0 0", "would 1 1 0 0").fraction(1, 1, "would 0 0 1 0").fraction(1, 3, "would 0 1 1 0")
            .fraction(2, 3, "would 0 1 1 1"))
            .breaks(would, "thought.nodes[other].doneTo = w;", "thought.nodes[other].finding = w;")
            .breaks(would, ".doneTo = w;", ".doneTo = v;")
            .breaks(would, ".nodes[other].doneTo", ".nodes[node].doneTo");
        s.of(17, words, "the same", () -> Run.of(TWO).fraction(1, 1, "would 1 0 1 0", "would 0 1 0 1")
            .fraction(0, 1, "would 1 0 1 1", "would 0 1 0 0"))
            .breaks(would, "if (!web.hasValue", "if (node == other) return NO;\n        if (!web.hasValue")
            .breaks(would, "thought.nodes[other].doneTo = w;", "if (other != node) thought.nodes[other].doneTo = w;");
        s.of(17, words, "in thought alone, DONE already or not", () -> Run.of(TWO).fraction(1, 3, "would 0 1 1 0")
            .due(NONE, "of 0 5").due(0, "count 2").fraction(1, 2, "odds 1 0").due(NONE, "done 1 1")
            .fraction(1, 1, "would 1 0 1 0")
            .due(1, "of 1 5").fraction(1, 1, "odds 1 1").fraction(1, 4, "would 1 0 0 0"))
            .breaks(would, "thought.nodes[other].doneTo = w;", "web.nodes[other].doneTo = w;\n        thought.become(web);")
            .breaks(would, ".doneTo = w;", ".doneTo = thought.nodes[other].doneTo == NONE ? w : thought.nodes[other].doneTo;");
        s.of(17, words, "of NODES with two PARENTS, of three values", () -> {
            StringBuilder rows = new StringBuilder("node 3 0 -1 -1;node 3 0 -1 -1;node 3 0 0 1;node 3 3 2 0");
            for (int row = 0; row < 9; row++) rows.append(";row 2 " + row + " " + row + " 0 " + (12 - row));
            Run.of(rows + ";told 0 1;told 1 1").fraction(1, 3, "would 3 2 2 0").fraction(1, 1, "would 2 2 3 0").due(1, "told 1 2")
                .fraction(5, 12, "would 3 1 2 0", "without 0 2 0").fraction(1, 3, "without 1 2 0");
        })
            .breaks("void become(Node other)", "p = other.p;", "")
            .breaks("void become(Node other)", "q = other.q;", "")
            .breaks("void become(Node other)", "rowsOfP = other.rowsOfP;", "")
            .breaks("void become(Node other)", "size = other.size;", "");
        s.of(17, words, "it forgets what was thought before", () -> Run.of(TWO).fraction(1, 1, "would 0 0 1 0")
            .fraction(1, 4, "would 1 0 0 0").due(NONE, "told 1 0").fraction(1, 4, "would 1 0 0 0")
            .fraction(1, 1, "would 0 0 0 0"))
            .breaks(would, "thought.become(web);", "if (thought.size != web.size) thought.become(web);");
        s.of(17, "NO: a number;", "NODES", () -> none("would -1 0 1 0 0", "would 2 0 1 0 0", "would 0 0 -1 0 0",
            "would 0 0 2 0 1", "would 7 0 7 0 0", "would 0 0 " + GREATEST + " 0 0", "would " + LEAST + " 0 0 0 0"))
            .breaks(would, "!web.hasValue(other, w)", "other < 0 || other >= NODES || !web.nodes[other].has(w)")
            .breaks(would, "!web.hasValue(node, v)", "node < 0 || node >= NODES || !web.nodes[node].has(v)")
            .breaks(would, "return NO;", "return BAD;");
        s.of(17, "NO: a number;", "values: NONE isn't one", () -> none("would 0 2 1 0 0", "would 0 -1 1 0 0", "would 0 0 1 2 0",
            "would 0 0 1 -1 1", "would 1 -1 0 0 1", "would 0 " + GREATEST + " 0 0 0"))
            .breaks(would, "!web.hasValue(other, w)", "!web.has(other) || !web.nodes[other].hasOrNone(w)")
            .breaks(would, "!web.hasValue(other, w)", "!web.has(other) || w < 0 || w >= VALUES")
            .breaks(would, "!web.hasValue(node, v)", "!web.has(node)");
        s.of(17, "NO: a number;", "line", () -> none("would 0 0 1 0 -1", "would 0 0 1 0 2", "would 1 1 1 1 " + GREATEST))
            .breaks(would, " || !isLine(line)", "")
            .breaks("private static boolean isLine(", "|| line == 1", "|| line >= 1");
        s.of(17, "STATE.", "by a FINDING that is another one; NO is first", () -> {
            Run.of(TWO, "told 1 0").fraction(1, 4, "would 1 0 0 0")
                .refuses(STATE, "would 1 1 0 0 0", "would 1 1 0 0 1", "would 1 1 1 1 0")
                .refuses(NO, "would 1 1 0 2 0", "would 1 2 0 0 0", "would 1 1 0 0 2");
            Run.of(TWO, "told 0 0;told 1 1").bothLines(STATE, "odds 0 0").fraction(1, 1, "would 1 1 0 0")
                .refuses(STATE, "would 0 0 1 1 0");
        })
            .breaks(would, "return oddsIn(", "if (worlds.weighAll(web) == 0) return STATE;\n        return oddsIn(")
            .breaks(would, "return oddsIn(", "thought.nodes[other].finding = NONE;\n        return oddsIn(")
            .breaks(would, "if (!web.hasValue",
                "if (web.has(other) && web.nodes[other].finding != NONE && web.nodes[other].finding != w) return STATE;\n        if (!web.hasValue");
    }

    private static void without(Sentences s) {
        String without = "public long without(";
        String words = "ODDS of a NODE to have a value, were of another one (or the same) no FINDING told, all its HINT's numbers 1 (if it is HINTED), in thought.";
        s.of(18, words, "another one's FINDING", () -> Run.of(TWO, "told 1 0").fraction(1, 2, "odds 0 0", "without 0 0 0")
            .fraction(1, 4, "without 1 0 0").due(0, "told 1 1").fraction(0, 1, "odds 0 0").fraction(1, 4, "without 1 0 0"))
            .breaks(without, "n.finding = NONE;", "")
            .breaks(without, "thought.nodes[other]", "thought.nodes[node]")
            .breaks(without, "n.finding = NONE;", "if (n.finding > 0) n.finding = NONE;");
        s.of(18, words, "the same one's FINDING", () -> Run.of(TWO, "told 1 0").fraction(1, 1, "odds 1 0", "without 0 1 0")
            .fraction(1, 2, "without 1 1 0", "without 1 1 1"))
            .breaks(without, "n.finding = NONE;", "if (other != node) n.finding = NONE;")
            .breaks(without, "if (!web.has(other)", "if (node == other) return NO;\n        if (!web.has(other)");
        s.of(18, words, "its HINT, if it is HINTED", () -> Run.of(TWO, "hint 1 1 3 0").fraction(1, 8, "odds 0 0", "without 0 0 0")
            .fraction(1, 4, "without 1 0 0").fraction(1, 2, "without 1 1 0"))
            .breaks(without, "if (n.isHinted()) n.setHints(1, 1, 1);", "")
            .breaks(without, "n.setHints(1, 1, 1)", "n.setHints(1, 2, 1)")
            .breaks(without, "if (n.isHinted())", "if (n.isHinted() && n.size == VALUES)");
        s.of(18, words, "its HINT of three numbers", () -> Run.of("node 3 0 -1 -1;hint 0 1 1 4").fraction(2, 3, "odds 0 2")
            .fraction(1, 3, "without 0 0 2", "without 0 0 0"))
            .breaks(without, "n.setHints(1, 1, 1)", "n.setHints(1, 1, n.hints[2])")
            .breaks(without, "if (n.isHinted())", "if (n.hints[0] != n.hints[1])");
        s.of(18, words, "all the same: it isn't HINTED, so its numbers stay", () -> Run.of(TWO, "hint 1 0 0 5")
            .bothLines(STATE, "without 1 0 0", "without 0 0 0").due(0, "hint 1 7 7 0").fraction(1, 4, "without 1 0 0"))
            .breaks(without, "if (n.isHinted()) n", "n");
        s.of(18, words, "both at once; that it is DONE stays", () -> Run.of(TWO, "told 1 1;hint 1 1 3 0")
            .fraction(1, 4, "without 1 0 0").due(NONE, "done 1 0").bothLines(STATE, "odds 0 0").fraction(1, 1, "without 1 1 0")
            .fraction(1, 4, "without 1 0 0"))
            .breaks(without, "n.finding = NONE;", "n.finding = NONE;\n        n.doneTo = NONE;")
            .breaks(without, "if (n.isHinted())", "if (n.isHinted() && web.nodes[other].finding == NONE)");
        s.of(18, words, "in thought alone", () -> Run.of(TWO, "told 1 0;hint 1 1 3 0").fraction(1, 4, "without 1 0 0")
            .prints(1, "1/2 <0 told=0 hint 1:3").due(1, "count 1", "count 3").fraction(1, 2, "odds 0 0"))
            .breaks(without, "n.finding = NONE;", "n.finding = NONE;\n        web.nodes[other].finding = NONE;")
            .breaks(without, "if (n.isHinted())", "web.nodes[other].setHints(1, 1, 1);\n        if (n.isHinted())");
        s.of(18, "NO: a number;", "NODES", () -> none("without -1 1 0 0", "without 2 1 0 0", "without 7 0 0 1",
            "without 0 -1 0 0", "without 0 2 0 0", "without " + GREATEST + " 0 0 0", "without 0 " + LEAST + " 0 0"))
            .breaks(without, "!web.has(other)", "other < 0 || other >= NODES")
            .breaks(without, "!web.hasValue(node, v)", "node < 0 || node >= NODES || !web.nodes[node].has(v)")
            .breaks(without, "return NO;", "return BAD;");
        s.of(18, "NO: a number;", "value, line", () -> none("without 0 1 2 0", "without 0 1 -1 0", "without 1 1 2 1",
            "without 0 1 0 2", "without 0 1 0 -1", "without 1 1 0 " + GREATEST))
            .breaks(without, "!web.hasValue(node, v)", "!web.has(node)")
            .breaks(without, " || !isLine(line)", "");
        s.of(18, "STATE.", "what is left without is 0; NO is first", () -> Run.of(TWO, "told 0 0;told 1 1")
            .fraction(0, 1, "without 0 0 0").fraction(1, 1, "without 1 1 0").due(NONE, "done 1 0")
            .refuses(STATE, "without 0 0 0 0", "without 0 0 0 1")
            .refuses(NO, "without 0 0 2 0", "without 0 0 0 2", "without 2 0 0 0").fraction(1, 1, "without 1 1 0"))
            .breaks(without, "return oddsIn(", "if (worlds.weighAll(web) == 0) return STATE;\n        return oddsIn(")
            .breaks(without, "if (!web.has(other)", "if (worlds.weighAll(web) == 0) return STATE;\n        if (!web.has(other)");
    }

    private static void likely(Sentences s) {
        String likely = "public int likely(";
        s.of(19, "The value of a NODE in the LIKELIEST.", "of each NODE", () -> Run.of(TWO).due(1, "likely 0", "likely 1")
            .due(0, "hint 0 9 1 0", "likely 0", "likely 1").due(NONE, "told 1 1")
            .due(1, "likely 0", "likely 1", "row 0 0 5 7 0", "row 1 1 3 9 0", "hint 0 1 1 0", "told 1 -1", "likely 0",
                "likely 1", "row 1 1 11 1 0", "likely 0").due(0, "likely 1"))
            .breaks(likely, "worlds.likeliest[node]", "worlds.likeliest[0]")
            .breaks(likely, "worlds.likeliest[node]", "worlds.world[node]")
            .breaks("private static void seekLikeliest(", "sofar * factor", "sofar + factor");
        s.of(19, "BAD;", "below 0, and as many as there are", () -> Run.of(TWO)
            .refuses(BAD, "likely -1", "likely 2", "likely 6", "likely 7", "likely " + GREATEST, "likely " + LEAST))
            .breaks(likely, "!web.has(node)", "node < 0 || node >= NODES")
            .breaks(likely, "return BAD;", "return NONE;");
        s.of(19, "STATE: the WEIGHT of all is 0.", "by a HINT, by FINDINGS, by one that is DONE", () -> {
            Run.of(NOTHING).refuses(STATE, "likely 0", "likely 1");
            Run.of(TWO, "told 0 0").due(0, "likely 1").due(NONE, "told 1 1").refuses(STATE, "likely 0", "likely 1")
                .due(NONE, "done 1 1").due(0, "likely 0").due(1, "likely 1", "done 1 0").refuses(STATE, "likely 0");
        })
            .breaks(likely, ": STATE", ": NONE")
            .breaks("boolean findLikeliest(", "return greatest > 0;", "return true;");
        s.of(19, "STATE: the WEIGHT of all is 0.", "a WEIGHT of 1 isn't 0",
            () -> Run.of("node 2 0 -1 -1;row 0 0 11 1 0;hint 0 0 1 0").due(1, "weight", "likely 0"))
            .breaks("boolean findLikeliest(", "greatest > 0", "greatest > 1")
            .breaks("boolean findLikeliest(", "greatest = 0;", "greatest = 1;");
        s.of(19, FIRST_NAMED, "BAD ahead of STATE", () -> Run.of(NOTHING).refuses(BAD, "likely 2", "likely -1"))
            .breaks(likely, "if (!web.has(node))", "if (worlds.weighAll(web) == 0) return STATE;\n        if (!web.has(node))");
    }

    private static void ties(Sentences s) {
        String seek = "private static void seekLikeliest(";
        String words = "LIKELIEST: the WORLD of greatest WEIGHT, of several that with the least value of NODE 0, of several of these of NODE 1, and so on.";
        s.of(19, words, "of several the least value of NODE 0", () -> {
            Run.of("node 3 0 -1 -1;node 3 0 -1 -1").due(0, "likely 0", "likely 1", "hint 0 1 2 2").due(1, "likely 0")
                .due(0, "likely 1");
            Run.of("node 2 0 -1 -1;node 2 0 0 -1;row 1 0 0 12 0;row 1 1 12 0 0").due(0, "likely 0").due(1, "likely 1");
        })
            .breaks(seek, "sofar <= w.greatest", "sofar < w.greatest")
            .breaks(seek, "int v = 0; v < web.nodes[i].size; v++", "int v = web.nodes[i].size - 1; v >= 0; v--");
        s.of(19, words, "of several of these of NODE 1, and of NODE 6", () -> {
            Run r = Run.of("node 2 0 -1 -1;node 2 0 -1 -1;node 2 0 1 -1;node 2 0 -1 -1;node 2 0 -1 -1;node 2 0 -1 -1;node 3 0 -1 -1", "row 2 0 0 12 0;row 2 1 12 0 0;hint 6 0 1 1;told 0 1");
            r.due(1, "likely 0", "likely 2", "likely 6").due(0, "likely 1", "likely 3", "likely 5");
        })
            .breaks(seek, "sofar <= w.greatest", "sofar < w.greatest")
            .breaks(seek, "int v = 0; v < web.nodes[i].size; v++",
                "int w1 = 0, v = i == 1 ? 1 : 0; w1 < web.nodes[i].size; w1++, v = i == 1 ? 1 - w1 : w1")
            .breaks(seek, "int v = 0; v < web.nodes[i].size; v++",
                "int w1 = 0, v = i == 6 ? 2 : 0; w1 < web.nodes[i].size; w1++, v = i == 6 ? 2 - w1 : w1");
        s.of(19, words, "greatest by 1 alone, behind the first",
            () -> Run.of("node 2 0 -1 -1;node 2 0 -1 -1;row 0 0 5 7 0;hint 0 7 5 0").due(0, "likely 0").due(1, "hint 0 4 3 0")
                .due(1, "likely 0").due(0, "likely 1"))
            .breaks(seek, "sofar <= w.greatest", "sofar <= w.greatest + 6")
            .breaks(seek, "sofar <= w.greatest", "w.greatest > 0");
    }
}
