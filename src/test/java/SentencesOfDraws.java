/** Promises 26 to 32, sentence by sentence. */
final class SentencesOfDraws {
    private static final int NONE = Run.NONE, BAD = Run.BAD, STATE = Run.STATE, MISSING = Run.MISSING, UNLIKE = Run.UNLIKE;
    private static final long NO = Run.NO;
    private static final String GREATEST = "2147483647", LEAST = "-2147483648";
    private static final String FIRST_NAMED = "Refusals, the first that the call's words name; they change nothing";
    private static final String DRAWN = "DRAWN by a SEED, z being z * 1103515245 + 12345 (an int; SEED at first) anew for each NODE, by numbers, in thought: "
        + "one that is DONE has that value (z is made anew, too); else of its numbers for its PARENTS' values "
        + "the first value up to which they are together above (z >>> 9) % 12.";
    private static final String CHANCE = "Of m seeds (1 .. 8), SEED and each 1 more (an int), of those that draw a WORLD with all FINDINGS those in which a NODE has a value: a fraction.";
    private static final String IMAGE = "AN IMAGE keeps NODES with all that is told of them.";
    private static final String TWO = "node 2 0 -1 -1;node 3 0 0 -1;row 0 0 3 9 0;row 1 1 1 2 9";
    /** All seven NODES, none with PARENTS. */
    private static final String SEVEN = "node 2 0 -1 -1" + ";node 2 0 -1 -1".repeat(6);
    private static final int[] SEEDS = {0, 1, 2, 3, 6, -1, -7, 12345, Integer.MAX_VALUE, Integer.MIN_VALUE};
    private static final String DRAW = "void draw(Web web, int seed)";
    private static final String DRAW_ONE = "private int drawOne(";

    private SentencesOfDraws() { }

    static void tell(Sentences s) {
        drawn(s);
        drawnByNumbers(s);
        chance(s);
        refusalsOfChance(s);
        film(s);
        lay(s);
        refusalsOfLay(s);
        image(s);
        back(s);
        count(s);
    }

    /** (z >>> 9) % 12 of a NODE, reckoned with numbers that are never below 0. */
    private static int mark(int seed, int node) {
        long z = seed & 0xffffffffL;
        for (int i = 0; i <= node; i++) z = (z * 1103515245L + 12345) % (1L << 32);
        return (int) (z / 512 % 12);
    }

    private static void drawn(Sentences s) {
        String drawn = "public int drawn(";
        s.of(26, "The value of a NODE as DRAWN.", "of each NODE", () -> {
            for (int seed : SEEDS) {
                Run r = Run.of("node 2 0 -1 -1;node 3 0 -1 -1");
                r.due(mark(seed, 0) < 6 ? 0 : 1, "drawn " + seed + " 0").due(mark(seed, 1) / 4, "drawn " + seed + " 1");
            }
        })
            .breaks(drawn, "return worlds.world[node];", "return worlds.world[0];")
            .breaks(drawn, "worlds.draw(web, seed);", "worlds.draw(web, 0);");
        s.of(26, "BAD.", "below 0, and as many as there are", () -> Run.of(TWO)
            .refuses(BAD, "drawn 0 -1", "drawn 0 2", "drawn 5 6", "drawn 5 7", "drawn 0 " + GREATEST, "drawn 0 " + LEAST))
            .breaks(drawn, "!web.has(node)", "node < 0 || node >= NODES")
            .breaks(drawn, "return BAD;", "return NONE;");
        s.of(26, DRAWN, "an int, as it wraps around and below 0", () -> {
            for (int seed : SEEDS) {
                Run r = Run.of("node 3 0 -1 -1;node 3 0 -1 -1;node 3 0 -1 -1;node 3 0 -1 -1;node 3 0 -1 -1;node 3 0 -1 -1;node 3 0 -1 -1");
                for (int node = 0; node < 7; node++) r.due(mark(seed, node) / 4, "drawn " + seed + " " + node);
            }
        })
            .breaks(DRAW, "z >>> 9", "z >> 9")
            .breaks(DRAW, "* 1103515245", "* 1103515243")
            .breaks(DRAW, "+ 12345", "+ 12344")
            .breaks(DRAW, "% WHOLE", "% 11")
            .breaks(DRAW, "z >>> 9", "z >>> 8")
            .breaks(DRAW, "int z = seed;", "int z = seed == 0 ? 1 : seed;")
            .breaks(DRAW, "z = z * 1103515245 + 12345;", "if (i > 0) z = z * 1103515245 + 12345;")
            .breaks(DRAW, "z = z * 1103515245 + 12345;", "z = (z & 0x7fffffff) * 1103515245 + 12345;");
        s.of(26, DRAWN, "one that is DONE has that value, z is made anew", () -> {
            for (int seed : SEEDS) {
                for (int v = 0; v < 3; v++) Run.of("node 3 0 -1 -1;node 3 0 0 -1;node 3 0 -1 -1;done 1 " + v)
                    .due(v, "drawn " + seed + " 1").due(mark(seed, 2) / 4, "drawn " + seed + " 2");
            }
        })
            .breaks(DRAW, "z = z * 1103515245 + 12345;", "if (web.nodes[i].doneTo == NONE) z = z * 1103515245 + 12345;")
            .breaks("int numberOf(int v", "doneTo != NONE", "doneTo > 0")
            .breaks("int numberOf(int v", "v == doneTo ? WHOLE : 0", "v == doneTo ? 6 : 3");
        s.of(26, DRAWN, "in thought", () -> Run.of(TWO, "told 0 0;hint 1 1 2 3").due(mark(1, 0) < 3 ? 0 : 1, "drawn 1 0")
            .due(1, "count 1", "count 3").due(0, "of 0 4").due(NONE, "of 1 4").due(mark(1, 0) < 3 ? 0 : 1, "drawn 1 0"))
            .breaks(drawn, "return worlds.world[node];",
                "web.nodes[node].finding = worlds.world[node];\n        return worlds.world[node];");
    }

    private static void drawnByNumbers(Sentences s) {
        s.of(26, DRAWN, "above, not as great: each number of twelfths against each mark", () -> {
            for (int seed = 0; seed < 40; seed++) {
                int mark = mark(seed, 0);
                for (int a : new int[] {0, mark, Math.min(mark + 1, 12), 12}) {
                    Run.of("node 2 0 -1 -1;row 0 0 " + a + " " + (12 - a) + " 0").due(a > mark ? 0 : 1, "drawn " + seed + " 0");
                    Run.of("node 3 0 -1 -1;row 0 0 0 " + a + " " + (12 - a)).due(a > mark ? 1 : 2, "drawn " + seed + " 0");
                }
            }
        })
            .breaks(DRAW_ONE, "together > mark", "together >= mark")
            .breaks(DRAW_ONE, "together > mark", "together > mark + 1");
        s.of(26, DRAWN, "up to which they are together above", () -> {
            for (int seed = 0; seed < 12; seed++) {
                int mark = mark(seed, 0);
                Run.of("node 3 0 -1 -1;row 0 0 4 4 4").due(mark / 4, "drawn " + seed + " 0").due(1, "row 0 0 1 7 4")
                    .due(mark < 1 ? 0 : mark < 8 ? 1 : 2, "drawn " + seed + " 0");
            }
        })
            .breaks(DRAW_ONE, "together +=", "together =")
            .breaks(DRAW_ONE, "v < last;", "v < 1;")
            .breaks(DRAW_ONE, "return last;", "return 1;");
        s.of(26, DRAWN, "its numbers for its PARENTS' values, of a MOST, a LEAST, a SUM as well", () -> {
            for (int seed : SEEDS) {
                int a = mark(seed, 0) / 4;
                int b = mark(seed, 1) < 6 ? 0 : 1;
                Run r = Run.of("node 3 0 -1 -1;node 2 0 -1 -1;node 2 0 0 1;node 3 3 0 1;node 3 1 1 0;node 2 2 0 1");
                for (int row = 0; row < 6; row++) r
                    .due(1, "row 2 " + row + " " + (row % 2 * 12) + " " + (12 - row % 2 * 12) + " 0");
                r.due(b == 1 ? 0 : 1, "drawn " + seed + " 2").due((a + b) % 3, "drawn " + seed + " 3")
                    .due(Math.max(a, b), "drawn " + seed + " 4").due(Math.min(a, b), "drawn " + seed + " 5");
            }
        })
            .breaks("int numberIn(int[] world", "has(n.q) ? world[n.q] : 0", "0")
            .breaks("int numberIn(int[] world", "has(n.p) ? world[n.p] : 0", "0")
            .breaks(DRAW, "world[i] = drawOne(", "world[i] = i > 3 ? 0 : drawOne(");
        s.of(26, DRAWN, "neither FINDINGS nor HINTS matter", () -> {
            for (int seed = 0; seed < 4; seed++) Run.of("node 2 0 -1 -1;told 0 0;hint 0 0 0 0")
                .due(mark(seed, 0) < 6 ? 0 : 1, "drawn " + seed + " 0").due(0, "told 0 1")
                .due(mark(seed, 0) < 6 ? 0 : 1, "drawn " + seed + " 0");
        })
            .breaks(DRAW_ONE, "web.numberIn(world, node, v)", "web.factorIn(world, node, v)")
            .breaks(DRAW_ONE, "int last = ",
                "if (web.nodes[node].finding != NONE) return web.nodes[node].finding;\n            int last = ");
    }

    private static void chance(Sentences s) {
        String chance = "public int chance(";
        s.of(27, CHANCE, "1 seed, 8 seeds", () -> {
            Run r = Run.of("node 2 0 -1 -1;node 2 0 -1 -1").fraction(5, 8, "chance 0 8 0 1").fraction(3, 8, "chance 0 8 0 0")
                .fraction(1, 2, "chance 0 2 0 1");
            r.fraction(1, 1, "chance 0 1 0 0", "chance 1 1 0 1").fraction(0, 1, "chance 0 1 0 1", "chance 1 1 0 0");
        })
            .breaks(chance, "i < m;", "i < m - 1;")
            .breaks(chance, "i < m;", "i <= m;")
            .breaks(chance, "seed + i", "seed")
            .breaks(chance, "int i = 0;", "int i = 1;")
            .breaks(chance, "if (worlds.world[node] == v)", "if (worlds.world[0] == v && node > 0)");
        s.of(27, CHANCE, "an int: behind the greatest comes the least", () -> {
            int hits = (mark(Integer.MAX_VALUE, 0) < 6 ? 0 : 1) + (mark(Integer.MIN_VALUE, 0) < 6 ? 0 : 1);
            Check.due("marks unlike those of one seed twice", hits, 1);
            Run.of("node 2 0 -1 -1").fraction(1, 2, "chance 2147483647 2 0 1").fraction(1, 1, "chance 2147483647 1 0 1")
                .fraction(0, 1, "chance -2147483648 1 0 1");
        })
            .breaks(chance, "seed + i", "Math.max(seed, seed + i)")
            .breaks(chance, "seed + i", "seed > 2147483640 ? seed : seed + i");
        s.of(27, CHANCE, "those with all FINDINGS, of the NODE itself, too", () -> {
            Run r = Run.of("node 2 0 -1 -1;node 2 0 -1 -1;told 1 0").fraction(2, 5, "chance 0 8 0 1")
                .fraction(1, 1, "chance 0 8 1 0").fraction(0, 1, "chance 0 8 1 1");
            r.due(NONE, "told 0 0").fraction(1, 1, "chance 0 8 1 0", "chance 0 8 0 0").due(0, "told 1 1")
                .bothLines(STATE, "chance 0 2 0 0");
        })
            .breaks(chance, "if (!worlds.fitsFindings(web)) continue;", "")
            .breaks("boolean fitsFindings(", "finding != NONE && finding != world[i]", "finding > 0 && finding != world[i]")
            .breaks("boolean fitsFindings(", "int i = 0;", "int i = 1;")
            .breaks(chance, "fit++;", "fit = m;");
        s.of(27, CHANCE, "those with all FINDINGS, of the seventh NODE, too", () -> {
            int fit = 0;
            for (int seed = 0; seed < 8; seed++) fit += mark(seed, 6) < 6 ? 1 : 0;
            Check.that("some of these seeds draw a 0, some a 1", fit > 0 && fit < 8);
            Run.of(SEVEN, "told 6 0").fraction(1, 1, "chance 0 8 6 0").fraction(0, 1, "chance 0 8 6 1").due(0, "told 6 -1")
                .due(fit / java.math.BigInteger.valueOf(fit).gcd(java.math.BigInteger.valueOf(8)).intValue(), "chance 0 8 6 0 0");
        })
            .breaks("boolean fitsFindings(", "i < web.size;", "i <= web.size;")
            .breaks("boolean fitsFindings(", "i < web.size;", "i < web.size - 1;");
        s.of(27, CHANCE, "a fraction, in lowest terms", () -> Run.of("node 2 0 -1 -1;node 3 0 -1 -1;done 0 1")
            .fraction(1, 1, "chance 0 8 0 1").fraction(0, 1, "chance 0 8 0 0").due(1, "done 0 -1")
            .fraction(1, 2, "chance 0 4 0 1"))
            .breaks(chance, "(int) fraction(hits, fit, line)", "line == 0 ? hits : fit")
            .breaks(chance, "fraction(hits, fit, line)", "fraction(hits, fit, 1 - line)")
            .breaks(chance, "fraction(hits, fit, line)", "fraction(fit - hits, fit, line)");
    }

    private static void refusalsOfChance(Sentences s) {
        String chance = "public int chance(";
        s.of(27, "BAD: a number;", "m", () -> Run.of(TWO)
            .refuses(BAD, "chance 0 0 0 0 0", "chance 0 9 0 0 0", "chance 0 -1 0 0 1", "chance 0 " + GREATEST
                + " 0 0 0", "chance 0 " + LEAST + " 0 0 0").due(1, "chance 0 1 0 0 1"))
            .breaks(chance, "m < 1", "m < 0")
            .breaks(chance, "m > SEEDS", "m > 9")
            .breaks(chance, "m < 1", "m <= 1")
            .breaks(chance, "m > SEEDS", "m >= SEEDS - 7");
        s.of(27, "BAD: a number;", "NODE, value", () -> Run.of(TWO)
            .refuses(BAD, "chance 0 1 -1 0 0", "chance 0 1 2 0 0", "chance 0 1 7 0 0", "chance 0 1 0 2 0", "chance 0 1 0 -1 0",
                "chance 0 1 1 3 1", "chance 0 1 " + GREATEST + " 0 0"))
            .breaks(chance, "!web.hasValue(node, v)", "!web.has(node)")
            .breaks(chance, "!web.hasValue(node, v)", "node < 0 || node >= NODES || !web.nodes[node].has(v)")
            .breaks(chance, "return BAD;", "return NONE;");
        s.of(27, "BAD: a number;", "line", () -> Run.of(TWO)
            .refuses(BAD, "chance 0 1 0 0 2", "chance 0 1 0 0 -1", "chance 0 1 0 0 " + GREATEST))
            .breaks(chance, " || !isLine(line)", "")
            .breaks("private static boolean isLine(", "|| line == 1", "|| line >= 1")
            .breaks("private static boolean isLine(", "line == 0 ||", "line <= 0 ||");
        s.of(27, "STATE: there are none with all FINDINGS.", "both lines; BAD is first",
            () -> Run.of("node 2 0 -1 -1;node 2 0 -1 -1;done 0 0;told 0 1")
                .refuses(STATE, "chance 0 8 0 0 0", "chance 0 8 1 0 1", "chance 0 1 0 1 1")
                .refuses(BAD, "chance 0 9 0 0 0", "chance 0 8 2 0 0", "chance 0 8 0 2 0", "chance 0 8 0 0 2"))
            .breaks("private static long fraction(", "if (below == 0) return STATE;",
                "if (below == 0) return line == 0 ? 0 : STATE;")
            .breaks(chance, "(int) fraction(hits, fit, line)", "fit == 0 ? 0 : (int) fraction(hits, fit, line)")
            .breaks(chance, "if (m < 1", "if (!worlds.fitsFindings(web)) return STATE;\n        if (m < 1")
            .breaks(chance, "(int) fraction(hits, fit, line)", "(int) fraction(hits, fit, line) + (fit == 0 ? 1 : 0)");
        s.of(27, "STATE: there are none with all FINDINGS.", "the WEIGHT of all may be 0",
            () -> Run.of("node 2 0 -1 -1;hint 0 0 0 0").due(0, "weight").fraction(5, 8, "chance 0 8 0 1"))
            .breaks(chance, "int fit = 0;", "if (worlds.weighAll(web) == 0) return STATE;\n        int fit = 0;");
    }

    private static void film(Sentences s) {
        String film = "public int film(";
        String words = "A SHEET truly becomes (ints) the values of the LIKELIEST: how many.";
        s.of(28, words, "one that is missing, one of another sort and size", () -> {
            Run.of(TWO).due(2, "film 0").items(0, 1, 2).due(2, "film 3", "lay 3 1");
            Run.of(TWO).fills(1, 2, 5, 6, 7).due(2, "film 1").items(1, 1, 2).refuses(UNLIKE, "lay 1 2", "lay 1 0")
                .due(1, "put 1 0 4294967303").items(1, 7, 2);
            Run.of(TWO, "sheet 2 0 1").due(2, "film 2").items(2, 1, 2);
        })
            .breaks(film, "s.become(INTS, web.size);", "if (s.isMissing()) s.become(INTS, web.size);")
            .breaks(film, "s.become(INTS, web.size);", "s.become(LONGS, web.size);")
            .breaks(film, "s.become(INTS, web.size);", "s.become(INTS, NODES);")
            .breaks(film, "return web.size;", "return web.size - 1;")
            .breaks(film, "s.set(i, worlds.likeliest[i]);", "s.set(i, worlds.likeliest[0]);");
        s.of(28, words, "of seven NODES", () -> Run.of(SEVEN, "told 6 1;told 2 1").due(7, "film 0").items(0, 0, 0, 1, 0, 0, 0, 1)
            .due(7, "lay 0 1").due(1, "of 6 4"))
            .breaks(film, "i < web.size;", "i <= web.size;")
            .breaks(film, "i < web.size;", "i < web.size - 1;");
        s.of(28, words, "of no NODES", () -> Run.of("sheet 1 0 3").due(0, "film 0", "film 1").items(0).items(1).due(0, "lay 0 1"))
            .breaks(film, "Sheet s = sheets[sheet];", "if (web.size == 0) return 0;\n        Sheet s = sheets[sheet];");
        s.of(28, words, "truly: what comes then doesn't change it", () -> Run.of(TWO).due(2, "film 0").due(NONE, "told 1 0")
            .items(0, 1, 2).due(2, "film 0").items(0, 0, 0))
            .breaks("public int told(", "n.finding = v;",
                "n.finding = v;\n        worlds.findLikeliest(web);\n        sheets[0].items[node] = v;");
        s.of(28, "BAD;", "below 0, 4", () -> Run.of(TWO).refuses(BAD, "film -1", "film 4", "film " + GREATEST, "film " + LEAST)
            .due(2, "film 0", "film 3"))
            .breaks("private static boolean isSheet(", "sheet < SHEETS", "sheet <= SHEETS")
            .breaks("private static boolean isSheet(", "sheet >= 0", "sheet >= NONE")
            .breaks(film, "return BAD;", "return MISSING;");
        s.of(28, "STATE: the WEIGHT of all is 0.", "the SHEET stays; BAD is first", () -> Run.of(TWO, "hint 0 0 0 0")
            .fills(0, 0, 8, 9).refuses(STATE, "film 0", "film 1").refuses(BAD, "film 4", "film -1").items(0, 8, 9))
            .breaks(film, "if (!worlds.findLikeliest(web)) return STATE;", "worlds.findLikeliest(web);")
            .breaks(film, "if (!worlds.findLikeliest(web)) return STATE;",
                "if (!worlds.findLikeliest(web)) {\n            sheets[sheet].become(INTS, web.size);\n            return STATE;\n        }")
            .breaks(film, "if (!isSheet(sheet))", "if (!worlds.findLikeliest(web)) return STATE;\n        if (!isSheet(sheet))");
    }

    private static void lay(Sentences s) {
        String lay = "public int lay(";
        String words = "FINDINGS of all NODES become what a SHEET tells that is taken for one of a sort: how many have one then.";
        s.of(29, words, "of each sort: all, some, none", () -> {
            for (int sort = 0; sort < 3; sort++) {
                Run r = Run.of(TWO).fills(sort, sort, 1, 2).due(2, "lay " + sort + " " + sort).due(1, "of 0 4").due(2, "of 1 4")
                    .fills(sort, sort, -1, 0).due(1, "lay " + sort + " " + sort).due(NONE, "of 0 4").due(0, "of 1 4");
                r.fills(sort, sort, -1, -1).due(0, "lay " + sort + " " + sort).due(NONE, "of 0 4", "of 1 4");
            }
        })
            .breaks(lay, "web.nodes[i].finding = (int) s.items[i];",
                "if (s.items[i] != NONE) web.nodes[i].finding = (int) s.items[i];")
            .breaks(lay, "return web.countFindings();", "return web.size;")
            .breaks(lay, "int i = 0;", "int i = 1;")
            .breaks("int countFindings()", "finding != NONE", "finding > 0");
        s.of(29, words, "of seven NODES", () -> Run.of(SEVEN).fills(3, 0, 0, -1, 1, -1, 0, -1, 1).due(4, "lay 3 0")
            .due(1, "of 6 4", "of 2 4").due(NONE, "of 5 4"))
            .breaks(lay, "i < web.size;", "i <= web.size;")
            .breaks(lay, "i < web.size;", "i < web.size - 1;");
        s.of(29, words, "of no NODES", () -> Run.of("sheet 0 0 0;sheet 1 1 1").due(0, "lay 0 0").refuses(STATE, "lay 1 1"))
            .breaks(lay, "if (!tellsValues(s)) return STATE;", "if (!tellsValues(s) || s.size == 0) return STATE;")
            .breaks("private boolean tellsValues(", "s.size != web.size", "s.size < web.size");
        s.of(29, words, "FINDINGS alone", () -> Run.of(TWO, "done 0 1;hint 1 1 2 3").fills(0, 0, 0, 0).due(2, "lay 0 0")
            .due(1, "of 0 5").prints(1, "1/3 <0 told=0 hint 1:2:3").items(0, 0, 0))
            .breaks(lay, "web.nodes[i].finding = (int) s.items[i];",
                "{\n            web.nodes[i].finding = (int) s.items[i];\n            web.nodes[i].doneTo = NONE;\n        }");
    }

    private static void refusalsOfLay(Sentences s) {
        String lay = "public int lay(";
        String values = "private boolean tellsValues(";
        String words = "STATE: it tells of more or fewer NODES, or a value that is none.";
        s.of(29, "BAD: no such SHEET, sort;", "SHEET", () -> Run.of(TWO, "sheet 0 0 2")
            .refuses(BAD, "lay -1 0", "lay 4 0", "lay " + GREATEST + " 1", "lay " + LEAST + " 2"))
            .breaks("private static boolean isSheet(", "sheet < SHEETS", "sheet <= SHEETS")
            .breaks(lay, "!isSheet(sheet) || ", "")
            .breaks(lay, "return BAD;", "return UNLIKE;");
        s.of(29, "BAD: no such SHEET, sort;", "sort: missing is none", () -> Run.of(TWO, "sheet 0 0 2")
            .refuses(BAD, "lay 0 -1", "lay 0 3", "lay 1 -1", "lay 1 3", "lay 0 " + GREATEST))
            .breaks("private static boolean isSort(", "sort >= LONGS", "sort >= NONE")
            .breaks("private static boolean isSort(", "sort <= BYTES", "sort <= 3")
            .breaks(lay, " || !isSort(sort)", "");
        s.of(29, "-13;", "each other sort", () -> Run.of(TWO, "sheet 0 0 2;sheet 1 1 2;sheet 2 2 2")
            .refuses(UNLIKE, "lay 0 1", "lay 0 2", "lay 1 0", "lay 1 2", "lay 2 0", "lay 2 1")
            .due(2, "lay 0 0", "lay 1 1", "lay 2 2"))
            .breaks(lay, "s.sort != sort", "s.sort > sort")
            .breaks(lay, "s.sort != sort", "s.sort < sort")
            .breaks(lay, "return UNLIKE;", "return BAD;");
        s.of(29, "-11;", "missing is of no other sort", () -> Run.of(TWO).refuses(MISSING, "lay 0 0", "lay 1 1", "lay 3 2")
            .due(1, "sheet 0 1 2", "sheet 0 -1 2").refuses(MISSING, "lay 0 1", "lay 0 0"))
            .breaks(lay, "!s.isMissing() && s.sort", "s.sort")
            .breaks(lay, "return MISSING;", "return STATE;")
            .breaks(lay, "if (s.isMissing()) return MISSING;", "");
        s.of(29, "-11;", "missing, where there are no NODES", () -> Run.of().refuses(MISSING, "lay 0 0", "lay 3 2"))
            .breaks(lay, "if (s.isMissing()) return MISSING;", "");
        s.of(29, words, "one more, one fewer", () -> Run.of(TWO, "told 0 1;sheet 0 0 3;sheet 1 1 1;sheet 2 2 0;sheet 3 0 40")
            .refuses(STATE, "lay 0 0", "lay 1 1", "lay 2 2", "lay 3 0"))
            .breaks(values, "s.size != web.size", "s.size < web.size")
            .breaks(values, "s.size != web.size", "s.size > web.size");
        s.of(29, words, "-2, SIZE, what isn't an int", () -> Run.of(TWO).fills(0, 0, 2, 0).refuses(STATE, "lay 0 0")
            .fills(0, 0, 0, 3).refuses(STATE, "lay 0 0").fills(0, 1, -2, 0).refuses(STATE, "lay 0 1").fills(0, 2, 0, -2)
            .refuses(STATE, "lay 0 2").fills(0, 0, 1L << 32, 0).refuses(STATE, "lay 0 0")
            .fills(0, 0, 0, (1L << 32) - 1).refuses(STATE, "lay 0 0").fills(0, 0, Long.MIN_VALUE, 0).refuses(STATE, "lay 0 0"))
            .breaks(values, "s.items[i] < NONE ||", "")
            .breaks(values, "s.items[i] >= web.nodes[i].size", "s.items[i] > web.nodes[i].size")
            .breaks(values, "s.items[i] >= web.nodes[i].size", "s.items[i] >= VALUES")
            .breaks(values, "s.items[i] >= web.nodes[i].size", "(int) s.items[i] >= web.nodes[i].size");
        s.of(29, FIRST_NAMED, "-13 ahead of STATE, -11 ahead of STATE, and no FINDING of a refused SHEET is laid",
            () -> Run.of(TWO, "told 1 2;sheet 1 0 3").refuses(UNLIKE, "lay 1 1", "lay 1 2").refuses(MISSING, "lay 2 0")
                .fills(0, 0, 0, 3).refuses(STATE, "lay 0 0"))
            .breaks(lay, "if (!s.isMissing()", "if (!tellsValues(s)) return STATE;\n        if (!s.isMissing()")
            .breaks(lay, "if (!tellsValues(s)) return STATE;",
                "for (int i = 0; i < web.size && i < s.size; i++) {\n            if (s.items[i] < NONE || s.items[i] >= web.nodes[i].size) return STATE;\n            web.nodes[i].finding = (int) s.items[i];\n        }\n        if (!tellsValues(s)) return STATE;")
            .breaks(lay, "if (s.isMissing()) return MISSING;",
                "if (!tellsValues(s)) return STATE;\n        if (s.isMissing()) return MISSING;");
    }

    private static void image(Sentences s) {
        String image = "public int image(";
        String become = "void become(Node other)";
        s.of(30, "AN IMAGE is kept: how many NODES.", "none, two, seven", () -> {
            Run.of().due(0, "image", "back");
            Run.of(TWO).due(2, "image", "back").due(2, "node 2 0 -1 -1").due(2, "back").due(2, "node 2 0 -1 -1")
                .due(3, "image", "back");
            Run.of(TWO, "node 2 0 -1 -1;node 2 0 -1 -1;node 2 0 -1 -1;node 2 0 -1 -1;node 3 0 -1 -1;told 6 2").due(7, "image")
                .due(2, "told 6 -1").due(7, "back").due(2, "of 6 4");
        })
            .breaks(image, "return web.size;", "return web.size - 1;")
            .breaks(image, "return web.size;", "return Math.max(web.size, 1);")
            .breaks("void become(Web other)", "i < other.size;", "i < other.size - 1;")
            .breaks(image, "hasImage = true;", "hasImage = web.size > 0;");
        s.of(30, "AN IMAGE is kept:", "the later one alone, and it isn't changed by what comes", () -> Run.of(TWO).due(2, "image")
            .due(NONE, "told 0 1").due(2, "image").due(1, "told 0 0").due(2, "back").due(1, "of 0 4", "told 0 -1").due(2, "back")
            .due(1, "of 0 4"))
            .breaks(image, "kept.become(web);", "if (!hasImage) kept.become(web);")
            .breaks("public int told(", "n.finding = v;", "n.finding = v;\n        kept.nodes[node].finding = v;");
        s.of(30, IMAGE, "FINDING, DONE, HINT, ROWS", () -> Run.of(TWO, "told 1 2;done 0 1;hint 1 1 2 3").due(2, "image")
            .due(2, "told 1 -1").due(1, "done 0 -1", "hint 1 4 4 4", "row 1 1 12 0 0", "row 0 0 0 12 0").due(2, "back")
            .prints(0, "0/2 done=1").prints(1, "1/3 <0 told=2 hint 1:2:3").due(3, "cell 0 0 0")
            .due(9, "cell 1 1 2", "cell 0 0 1"))
            .breaks(become, "finding = other.finding;", "")
            .breaks(become, "doneTo = other.doneTo;", "")
            .breaks(become, "System.arraycopy(other.hints, 0, hints, 0, hints.length);", "")
            .breaks(become, "System.arraycopy(other.cells, 0, cells, 0, cells.length);", "");
        s.of(30, IMAGE, "NODES that came then are no more, and new ones are new", () -> Run.of(TWO)
            .due(2, "image", "node 3 1 0 1").due(NONE, "told 2 1", "done 2 2").due(0, "hint 2 1 2 3").due(2, "back")
            .refuses(BAD, "of 2 0").due(2, "node 2 0 1 -1").prints(2, "2/2 <1").due(6, "cell 2 0 0", "cell 2 2 1")
            .due(3, "of 2 7"))
            .breaks("void become(Web other)", "size = other.size;", "size = Math.max(size, other.size);")
            .breaks("void begin(int newSize", "finding = NONE;", "")
            .breaks("void begin(int newSize", "doneTo = NONE;", "")
            .breaks("void begin(int newSize", "setHints(1, 1, 1);", "")
            .breaks("void begin(int newSize", "kind = newKind;", "kind |= newKind;");
        s.of(30, IMAGE, "new ones of another KIND", () -> Run.of(TWO).due(2, "image", "node 3 0 0 1").due(1, "row 2 0 1 2 9")
            .due(2, "back", "node 3 1 0 1").due(NONE, "told 0 0", "told 1 0").fraction(1, 1, "odds 2 0").fraction(0, 1, "odds 2 2")
            .due(2, "back", "node 3 0 1 0").due(4, "cell 2 0 0", "cell 2 5 2"))
            .breaks("private void beginRow(", "setRow(row, 0, 0, 0);", "")
            .breaks("private void beginRow(", "setRow(row, WHOLE / VALUES,", "if (cells[row * VALUES] == 0) setRow(row, WHOLE / VALUES,");
        s.of(30, IMAGE, "neither SHEETS nor THE TAPE", () -> Run.of(TWO).fills(0, 0, 5).due(1, "feed 65").due(2, "image")
            .due(1, "put 0 0 6").due(2, "feed 66").due(2, "back").items(0, 6).due(2, "count 4"))
            .breaks("public int back(", "web.become(kept);", "web.become(kept);\n        tape.size = 0;")
            .breaks("public int back(", "web.become(kept);", "web.become(kept);\n        sheets[0].items[0] = 5;");
    }

    private static void back(Sentences s) {
        String back = "public int back(";
        s.of(31, "All that it keeps is as in THE IMAGE: how many NODES.", "again and again", () -> Run.of(TWO).due(2, "image")
            .due(NONE, "told 0 0").due(2, "back").due(NONE, "of 0 4", "told 0 1").due(2, "back").due(NONE, "of 0 4")
            .due(2, "back"))
            .breaks(back, "return web.size;", "hasImage = false;\n        return web.size;")
            .breaks(back, "web.become(kept);", "")
            .breaks(back, "return web.size;", "return web.size + 1;");
        s.of(31, "All that it keeps is as in THE IMAGE: how many NODES.", "of no NODES", () -> Run.of()
            .due(0, "image", "node 2 0 -1 -1", "back", "count 0").due(0, "node 3 0 -1 -1").prints(0, "0/3"))
            .breaks(back, "return web.size;", "return Math.max(web.size, 1);")
            .breaks("void become(Web other)", "size = other.size;", "if (other.size > 0) size = other.size;");
        s.of(31, "STATE: there is none.", "with and without NODES, with thoughts", () -> {
            Run.of().refuses(STATE, "back");
            Run.of(TWO).fraction(1, 1, "would 0 0 0 0").refuses(STATE, "back").due(2, "image", "back");
        })
            .breaks(back, "if (!hasImage) return STATE;", "")
            .breaks(back, "if (!hasImage) return STATE;",
                "if (!hasImage) {\n            web.become(kept);\n            return STATE;\n        }")
            .breaks(back, "return STATE;", "return NONE;");
    }

    private static void count(Sentences s) {
        String count = "public int count(";
        String words = "How many: 0 NODES, 1 FINDINGS, 2 that are DONE, 3 that are HINTED, 4 bytes of THE TAPE, 5 pairs that are NEAR, 6 WORLDS.";
        s.of(32, words, "of nothing", () -> Run.of().due(0, "count 0", "count 1", "count 2", "count 3", "count 4", "count 5")
            .due(1, "count 6"))
            .breaks("int countWorlds()", "int all = 1;", "int all = 0;")
            .breaks("int countNear(", "int ends = 0;", "int ends = 2;");
        s.of(32, words, "each of them",
            () -> Run.of(TWO, "node 2 1 0 1;told 0 0;told 2 1;done 0 0;hint 0 2 1 0;hint 1 5 5 5;feed 0;feed 255;feed 32;feed 32")
                .due(3, "count 0").due(2, "count 1").due(1, "count 2").due(1, "count 3").due(4, "count 4").due(3, "count 5")
                .due(12, "count 6"))
            .breaks(count, "case 0: return web.size;", "case 0: return NODES;")
            .breaks(count, "case 1: return web.countFindings();", "case 1: return web.countDone();")
            .breaks(count, "case 2: return web.countDone();", "case 2: return web.countFindings();")
            .breaks(count, "case 3: return web.countHinted();", "case 3: return web.countDone() + 1;")
            .breaks(count, "case 4: return tape.size;", "case 4: return TAPE;")
            .breaks(count, "case 5: return leaving.countNear(web);", "case 5: return 2 * leaving.countNear(web);")
            .breaks("int countDone()", "doneTo != NONE", "doneTo > 0")
            .breaks("int countFindings()", "finding != NONE", "finding > 0")
            .breaks("int countHinted()", "isHinted()", "hints[0] != 1");
        s.of(32, words, "of the last NODE alone, of all but the first", () -> Run
            .of("node 2 0 -1 -1;node 2 0 -1 -1;node 3 0 -1 -1;told 2 0;done 2 2;hint 2 0 0 1").due(1, "count 1", "count 2", "count 3")
            .due(NONE, "told 1 1", "done 1 0").due(0, "hint 1 1 2 0").due(2, "count 1", "count 2", "count 3"))
            .breaks("int countFindings()", "nodes[i]", "nodes[found]")
            .breaks("int countDone()", "nodes[i]", "nodes[found]")
            .breaks("int countHinted()", "nodes[i]", "nodes[found]");
        s.of(32, words, "of seven NODES of SIZE 3",
            () -> Run.of("node 3 0 -1 -1;node 3 0 0 -1;node 3 0 1 0;node 3 0 2 1;node 3 0 3 2;node 3 0 4 3;node 3 0 5 4")
                .due(7, "count 0").due(11, "count 5").due(2187, "count 6"))
            .breaks("int countWorlds()", "i < size;", "i < size - 1;")
            .breaks("int countNear(", "i < web.size;", "i < web.size - 1;");
        s.of(32, "BAD.", "below 0, 7", () -> Run.of(TWO)
            .refuses(BAD, "count -1", "count 7", "count 8", "count " + GREATEST, "count " + LEAST))
            .breaks(count, "default: return BAD;", "default: return web.countWorlds();")
            .breaks(count, "default: return BAD;", "default: return NONE;");
    }
}
