/** Promises 23 to 25, sentence by sentence. */
final class SentencesOfOrders {
    private static final int NONE = Run.NONE, BAD = Run.BAD, STATE = Run.STATE, MISSING = Run.MISSING, OUTSIDE = Run.OUTSIDE;
    private static final String GREATEST = "2147483647", LEAST = "-2147483648";
    private static final String FIRST_NAMED = "Refusals, the first that the call's words name; they change nothing";
    private static final String NEAR = "NEAR are to each other: a NODE that isn't DONE and each of its PARENTS; both of these PARENTS.";
    private static final String LEAVE = "NODES leave one by one: that of least FILL (how many pairs of those NEAR to it aren't NEAR to each other), "
        + "of several the least number; then all that were NEAR to it are NEAR to each other.";
    private static final String GROUP = "GROUP of one: it and those who are NEAR to it as it leaves.";
    private static final String CLUSTERS = "CLUSTERS, numbered from 0 in this order: GROUPS that aren't all in an earlier one.";
    private static final String JOINED = "JOINED: CLUSTER 0 is in THE TREE; then one by one the others come into it: of all pairs of a CLUSTER that isn't in it and one that is "
        + "that with most NODES in common, of several that with the least one that isn't in, of several of these that with the least one that is: "
        + "the one is JOINED to the other (CLUSTER 0: to none).";
    private static final String COST = "COST of an order (as they leave so): of each NODE the SIZES of its GROUP multiplied; together.";
    /** A ring 0 1 2 3 without a chord, and NODE 4 with the PARENTS 3 and 0. */
    private static final String RING = "node 2 0 -1 -1;node 3 0 0 -1;node 2 0 1 -1;node 3 0 2 -1;node 2 0 3 0";
    private static final String STAR = "node 2 0 -1 -1;node 2 0 0 -1;node 2 0 0 -1;node 2 0 0 -1;node 2 0 0 -1";
    private static final String BEGIN = "void begin(Web web)";
    private static final String JOIN = "private void joinNext()";

    private SentencesOfOrders() { }

    static void tell(Sentences s) {
        near(s);
        leaves(s);
        order(s);
        cluster(s);
        joined(s);
        cost(s);
        refusalsOfCost(s);
    }

    private static void leave(Run r, int k, int... want) {
        for (int what = 0; what < want.length; what++) r.due(want[what], "leaves " + k + " " + what);
    }

    private static void near(Sentences s) {
        s.of(23, NEAR, "a NODE and each PARENT, both PARENTS", () -> {
            Run r = Run.of("node 2 0 -1 -1;node 2 0 -1 -1;node 2 1 0 1").due(3, "count 5");
            leave(r, 0, 0, 0, 2, 7);
            leave(r, 1, 1, 0, 1, 6);
            r = Run.of("node 2 0 -1 -1;node 2 0 -1 -1;node 2 3 0 -1").due(1, "count 5");
            leave(r, 0, 0, 0, 1, 5);
        })
            .breaks(BEGIN, "if (web.has(n.p) && web.has(n.q)) bringNear(n.p, n.q);", "")
            .breaks(BEGIN, "if (web.has(n.q)) bringNear(i, n.q);", "")
            .breaks(BEGIN, "if (web.has(n.p)) bringNear(i, n.p);", "")
            .breaks("private void bringNear(", "near[b] |= 1 << a;", "");
        s.of(23, NEAR, "not of one that is DONE, but of its child", () -> {
            Run r = Run.of("node 2 0 -1 -1;node 2 0 -1 -1;node 2 0 0 1;node 2 0 2 -1;done 2 0").due(1, "count 5");
            leave(r, 0, 0, 0, 0, 1);
            leave(r, 2, 2, 0, 1, 12);
            r.due(0, "done 2 -1").due(4, "count 5");
        })
            .breaks(BEGIN, "if (n.doneTo != NONE) continue;", "")
            .breaks(BEGIN, "n.doneTo != NONE", "n.doneTo > 0")
            .breaks(BEGIN, "n.doneTo != NONE", "n.doneTo != NONE || n.p != NONE && web.nodes[n.p].doneTo != NONE");
        s.of(23, NEAR, "FINDINGS and HINTS don't matter", () -> Run.of(RING, "told 3 0;hint 1 1 2 3").due(6, "count 5"))
            .breaks(BEGIN, "n.doneTo != NONE", "n.doneTo != NONE || n.finding != NONE");
        s.of(23, NEAR, "a pair that is NEAR twice counts once",
            () -> Run.of("node 2 0 -1 -1;node 2 0 0 -1;node 2 0 0 1;node 2 0 1 0").due(5, "count 5"))
            .breaks("int countNear(", "ends += Integer.bitCount(near[i]);",
                "ends += 2 * ((web.nodes[i].p < 0 ? 0 : 1) + (web.nodes[i].q < 0 ? 0 : 2));");
    }

    private static void leaves(Sentences s) {
        String leaves = "public int leaves(";
        s.of(23, "Who leaves as the k-th (what 0), its FILL (1), how many are NEAR to it then (2), its GROUP (3; bits).",
            "the first, the last", () -> {
            Run r = Run.of(RING);
            leave(r, 0, 4, 0, 2, 25);
            leave(r, 1, 0, 1, 2, 11);
            leave(r, 4, 3, 0, 0, 8);
        })
            .breaks(leaves, "case 0: return leaving.order[k];", "case 0: return k;")
            .breaks(leaves, "return leaving.fills[k];", "return 0;")
            .breaks(leaves, "bitCount(leaving.groups[k]) - 1", "bitCount(leaving.groups[k])")
            .breaks(leaves, "default: return leaving.groups[k];",
                "default: return leaving.groups[k] & ~(1 << leaving.order[k]);");
        s.of(23, "BAD: what;", "below 0, above 3", () -> Run.of(RING)
            .refuses(BAD, "leaves 0 4", "leaves 0 -1", "leaves 4 " + GREATEST, "leaves 0 " + LEAST))
            .breaks(leaves, "what < 0", "what < -1")
            .breaks(leaves, "what > 3", "what > 4")
            .breaks(leaves, "return BAD;", "return OUTSIDE;");
        s.of(23, "-12.", "below 0, and as many as there are; no NODES at all", () -> {
            Run.of(RING)
                .refuses(OUTSIDE, "leaves 5 0", "leaves -1 0", "leaves 6 3", "leaves 7 0", "leaves " + GREATEST
                    + " 0", "leaves " + LEAST + " 1");
            Run.of().refuses(OUTSIDE, "leaves 0 0", "leaves -1 0");
        })
            .breaks(leaves, "k >= web.size", "k > web.size")
            .breaks(leaves, "k < 0", "k < -1")
            .breaks(leaves, "k >= web.size", "k >= NODES")
            .breaks(leaves, "return OUTSIDE;", "return NONE;");
        s.of(23, FIRST_NAMED, "BAD ahead of -12", () -> Run.of(RING).refuses(BAD, "leaves 5 4", "leaves -1 -1", "leaves 9 4"))
            .breaks(leaves, "if (what < 0", "if (k < 0 || k >= web.size) return OUTSIDE;\n        if (what < 0");
    }

    private static void order(Sentences s) {
        String byLeast = "void leaveByLeastFill(";
        String leave = "void leave(int k, int node)";
        s.of(23, LEAVE, "least FILL, of several the least number", () -> {
            Run r = Run.of(RING);
            leave(r, 0, 4, 0);
            leave(r, 1, 0, 1);
            leave(r, 2, 1, 0);
            leave(Run.of("node 2 0 -1 -1;node 2 0 -1 -1;node 2 0 -1 -1"), 0, 0, 0, 0, 1);
            r = Run.of(STAR);
            leave(r, 0, 1, 0);
            leave(r, 3, 0, 0);
        })
            .breaks(byLeast, "fill >= least", "fill > least")
            .breaks(byLeast, "fill >= least", "fill <= least")
            .breaks(byLeast, "int fill = fillOf(i);", "int fill = Integer.bitCount(near[i]);")
            .breaks(byLeast, "int fill = fillOf(i);", "int fill = 0;");
        s.of(23, LEAVE, "FILL counts pairs that aren't NEAR", () -> {
            Run r = Run.of("node 2 0 -1 -1;node 2 0 -1 -1;node 2 0 0 1;node 2 0 0 -1;node 2 0 1 3;node 2 0 2 4");
            leave(r, 0, 5, 0, 2, 52);
            leave(r, 1, 0, 1, 3, 15);
        })
            .breaks("private int fillOf(", "return ends / 2;", "return ends;")
            .breaks("private int fillOf(", "& ~near[i] & ~(1 << i)", "& ~(1 << i)")
            .breaks("private int fillOf(", "& ~near[i] & ~(1 << i)", "& near[i]");
        s.of(23, LEAVE, "all that were NEAR to it are NEAR to each other then", () -> {
            Run r = Run.of(RING);
            leave(r, 1, 0, 1, 2, 11);
            leave(r, 2, 1, 0, 2, 14);
            leave(r, 3, 2, 0, 1, 12);
        })
            .breaks(leave, "(near[i] | others)", "near[i]")
            .breaks(leave, "& ~(1 << node)", "");
        s.of(23, GROUP, "as it leaves, not as it was", () -> {
            Run r = Run.of(STAR);
            leave(r, 3, 0, 0, 1, 17);
            leave(r, 4, 4, 0, 0, 16);
        })
            .breaks(leave, "groups[k] = others | 1 << node;", "groups[k] = others;")
            .breaks(leave, "near[i] = (near[i] | others) & ~(1 << i) & ~(1 << node);",
                "near[i] = (near[i] | others) & ~(1 << i);");
        s.of(23, GROUP, "the web as it is now", () -> {
            Run r = Run.of("node 2 0 -1 -1;node 2 0 0 -1");
            leave(r, 0, 0, 0, 1, 3);
            r.due(1, "count 5").due(2, "node 2 0 1 -1", "count 5").due(NONE, "done 1 0").due(1, "count 5");
            leave(r, 0, 0, 0, 0, 1);
            leave(r, 1, 1, 0, 1, 6);
        })
            .breaks(BEGIN, "Arrays.fill(near, 0);", "")
            .breaks("public int leaves(", "leaving.leaveByLeastFill(web);",
                "if (leaving.groups[0] == 0) leaving.leaveByLeastFill(web);");
    }

    private static void cluster(Sentences s) {
        String cluster = "public int cluster(";
        String words = "CLUSTERS: how many (k NONE); of the k-th its NODES (what 0; bits), to which it is JOINED (1; NONE), what they have in common (2; bits; 0).";
        s.of(24, words, "how many: none, one, several", () -> {
            Run.of().due(0, "cluster -1 0");
            Run.of("node 2 0 -1 -1").due(1, "cluster -1 0");
            Run.of("node 2 0 -1 -1;node 2 0 -1 -1").due(2, "cluster -1 0", "cluster -1 1", "cluster -1 2");
            Run.of(RING).due(3, "cluster -1 0", "cluster -1 1", "cluster -1 2");
        })
            .breaks(cluster, "if (k == NONE) return tree.size;", "if (k == NONE) return web.size;")
            .breaks(cluster, "if (k == NONE) return tree.size;", "")
            .breaks(cluster, "return tree.size;", "return tree.size - 1;");
        s.of(24, words, "of the first, of the last", () -> Run.of(RING).due(25, "cluster 0 0").due(NONE, "cluster 0 1")
            .due(0, "cluster 0 2").due(14, "cluster 2 0").due(1, "cluster 2 1").due(10, "cluster 2 2"))
            .breaks(cluster, "case 0: return tree.clusters[k];", "case 0: return leaving.groups[k] & ~1;")
            .breaks(cluster, "return tree.joined[k];", "return 0;")
            .breaks(cluster, "default: return tree.common[k];", "default: return Integer.bitCount(tree.common[k]);")
            .breaks("void grow(", "Arrays.fill(joined, NONE);", "Arrays.fill(joined, 0);");
        s.of(24, words, "nothing in common: 0", () -> Run.of("node 2 0 -1 -1;node 2 0 -1 -1").due(0, "cluster 1 1", "cluster 1 2")
            .due(2, "cluster 1 0"))
            .breaks(JOIN, "int most = NONE;", "int most = 0;");
        s.of(24, words, "what was in common before isn't", () -> Run.of("node 2 0 -1 -1;node 2 0 0 -1;node 2 0 1 -1")
            .due(2, "cluster 1 2").due(0, "cluster 1 1").due(NONE, "done 2 0").due(0, "cluster 1 2").due(4, "cluster 1 0")
            .due(0, "done 2 -1").due(2, "cluster 1 2"))
            .breaks("void grow(", "size = 0;", "");
        s.of(24, "BAD: what;", "below 0, above 2, also of how many", () -> Run.of(RING)
            .refuses(BAD, "cluster 0 3", "cluster 0 -1", "cluster -1 3", "cluster -1 -1", "cluster 2 " + GREATEST,
                "cluster 0 " + LEAST))
            .breaks(cluster, "what < 0", "what < -1")
            .breaks(cluster, "what > 2", "what > 3")
            .breaks(cluster, "return BAD;", "return OUTSIDE;")
            .breaks(cluster, "if (what < 0", "if (k == NONE) return 3;\n        if (what < 0");
        s.of(24, "-12.", "below NONE, and as many as there are; no NODES at all", () -> {
            Run.of(RING)
                .refuses(OUTSIDE, "cluster 3 0", "cluster 4 0", "cluster -2 0", "cluster 7 1", "cluster " + GREATEST
                    + " 2", "cluster " + LEAST + " 0");
            Run.of().refuses(OUTSIDE, "cluster 0 0", "cluster -2 0");
        })
            .breaks(cluster, "k >= tree.size", "k > tree.size")
            .breaks(cluster, "k >= tree.size", "k >= web.size")
            .breaks(cluster, "k < 0", "k < -2")
            .breaks(cluster, "return OUTSIDE;", "return NONE;")
            .breaks(cluster, "k == NONE", "k <= NONE");
        s.of(24, FIRST_NAMED, "BAD ahead of -12", () -> Run.of(RING).refuses(BAD, "cluster 3 3", "cluster -2 -1"))
            .breaks(cluster, "if (what < 0",
                "if (k < NONE || k >= NODES || web.size < 5 || k == 3) return OUTSIDE;\n        if (what < 0");
        s.of(24, CLUSTERS, "not all in an earlier one", () -> {
            Run.of(STAR).due(4, "cluster -1 0").due(3, "cluster 0 0").due(5, "cluster 1 0").due(9, "cluster 2 0")
                .due(17, "cluster 3 0");
            Run.of("node 2 0 -1 -1;node 2 0 0 -1;node 2 0 0 1").due(1, "cluster -1 0").due(7, "cluster 0 0");
        })
            .breaks("private boolean isInOne(", "(group & ~clusters[i]) == 0", "group == clusters[i]")
            .breaks("private boolean isInOne(", "return true;", "return false;")
            .breaks("private boolean isInOne(", "(group & ~clusters[i]) == 0", "(group & clusters[i]) != 0")
            .breaks("private boolean isInOne(", "int i = 0;", "int i = 1;");
    }

    private static void joined(Sentences s) {
        s.of(24, JOINED, "most in common, not the first",
            () -> Run.of("node 2 0 -1 -1;node 2 0 -1 -1;node 2 0 0 -1;node 2 0 1 -1;node 2 0 2 3").due(5, "cluster 0 0")
                .due(10, "cluster 1 0").due(28, "cluster 2 0")
            .due(2, "cluster 1 1").due(8, "cluster 1 2").due(0, "cluster 2 1").due(4, "cluster 2 2"))
            .breaks(JOIN, "int shared = Integer.bitCount(clusters[i] & clusters[j]);", "int shared = 1;")
            .breaks(JOIN, "shared <= most", "most != NONE && shared >= most");
        s.of(24, JOINED, "most in common with the last of those that are in",
            () -> Run.of("node 2 0 -1 -1;node 2 0 0 -1;node 2 0 0 -1;node 2 0 0 -1;node 2 0 0 3;node 2 0 0 3").due(4, "cluster -1 0")
                .due(25, "cluster 2 0").due(41, "cluster 3 0").due(0, "cluster 1 1", "cluster 2 1").due(2, "cluster 3 1")
                .due(9, "cluster 3 2"))
            .breaks(JOIN, "if (shared <= most) continue;", "if (shared <= most) break;")
            .breaks(JOIN, "j < size;", "j < size - 2;");
        s.of(24, JOINED, "of several the least one that isn't in",
            () -> Run.of("node 2 0 -1 -1;node 2 0 0 -1;node 2 0 0 -1;node 2 0 0 2;node 2 0 0 2").due(3, "cluster 0 0")
                .due(13, "cluster 1 0").due(21, "cluster 2 0")
            .due(0, "cluster 1 1").due(1, "cluster 1 2", "cluster 2 1").due(5, "cluster 2 2"))
            .breaks(JOIN, "int i = 0; i < size; i++", "int i = size - 1; i >= 0; i--");
        s.of(24, JOINED, "of several of these the least one that is", () -> Run.of(STAR)
            .due(0, "cluster 1 1", "cluster 2 1", "cluster 3 1").due(1, "cluster 3 2"))
            .breaks(JOIN, "int j = 0; j < size; j++", "int j = size - 1; j >= 0; j--")
            .breaks(JOIN, "shared <= most", "shared < most");
        s.of(24, JOINED, "CLUSTER 0: to none", () -> Run.of(RING).due(NONE, "cluster 0 1").due(0, "cluster 0 2", "cluster 1 1"))
            .breaks("void grow(", "in = 1;", "in = 2;")
            .breaks("void grow(", "Arrays.fill(joined, NONE);", "Arrays.fill(joined, 0);");
        s.of(24, JOINED, "all seven, each alone", () -> {
            Run r = Run.of("node 2 0 -1 -1;node 2 0 -1 -1;node 2 0 -1 -1;node 2 0 -1 -1;node 2 0 -1 -1;node 2 0 -1 -1;node 2 0 -1 -1").due(7, "cluster -1 0").due(64, "cluster 6 0");
            for (int k = 1; k < 7; k++) r.due(0, "cluster " + k + " 1", "cluster " + k + " 2");
            r.refuses(OUTSIDE, "cluster 7 0");
        })
            .breaks("void grow(", "int i = 1; i < size; i++", "int i = 2; i < size; i++")
            .breaks("void grow(", "k < NODES", "k < NODES - 1")
            .breaks(JOIN, "int most = NONE;", "int most = 0;");
    }

    private static void cost(Sentences s) {
        String cost = "public int cost(";
        String costOf = "int costOf(";
        String words = "COST (NONE: as they leave by least FILL; else in the order that a SHEET tells).";
        s.of(25, words, "NONE", () -> {
            Run.of(RING).due(12 + 18 + 18 + 6 + 3, "cost -1");
            Run.of().due(0, "cost -1");
            Run.of("node 3 0 -1 -1").due(3, "cost -1");
        })
            .breaks(cost, "if (sheet == NONE)", "if (sheet < NONE)")
            .breaks(cost, "leaving.leaveByLeastFill(web);",
                "leaving.begin(web);\n            for (int k = 0; k < web.size; k++) leaving.leave(k, k);")
            .breaks(costOf, "int together = 0;", "int together = 1;");
        s.of(25, words, "in another order, of each sort", () -> {
            for (int sort = 0; sort < 3; sort++) Run.of(RING).fills(sort, sort, 0, 1, 2, 3, 4).due(92, "cost " + sort)
                .fills(3, sort, 4, 1, 3, 2, 0).due(42, "cost 3").fills(3, sort, 4, 0, 1, 2, 3).due(57, "cost 3");
        })
            .breaks(cost, "leaving.leave(k, (int) s.items[k]);", "leaving.leave(k, k);")
            .breaks(cost, "leaving.begin(web);", "leaving.leaveByLeastFill(web);")
            .breaks(cost, "leaving.leave(k, (int) s.items[k]);", "leaving.leave(k, (int) s.items[web.size - 1 - k]);");
        s.of(25, words, "of all seven NODES", () -> Run.of("node 2 0 -1 -1" + ";node 2 0 0 -1".repeat(6))
            .fills(0, 1, 0, 1, 2, 3, 4, 5, 6).due(254, "cost 0").fills(1, 2, 6, 5, 4, 3, 2, 1, 0).due(26, "cost 1", "cost -1"))
            .breaks(cost, "k < web.size;", "k <= web.size;")
            .breaks(cost, "k < web.size;", "k < web.size - 1;")
            .breaks("private boolean tellsEachNodeOnce(", "i < web.size;", "i < web.size - 1;");
        s.of(25, words, "of no NODES", () -> Run.of("sheet 2 1 0").due(0, "cost 2"))
            .breaks("private boolean tellsEachNodeOnce(", "if (s.size != web.size) return false;",
                "if (s.size != web.size || s.size == 0) return false;");
        s.of(25, COST, "SIZES multiplied, of all GROUPS", () -> {
            Run.of("node 3 0 -1 -1;node 2 0 0 -1;node 3 0 0 1").due(18 + 6 + 3, "cost -1").due(NONE, "done 2 0")
                .due(6 + 2 + 3, "cost -1");
            StringBuilder seven = new StringBuilder("node 3 0 -1 -1;node 3 0 0 -1");
            for (int i = 2; i < 7; i++) seven.append(";node 3 0 " + (i - 1) + " " + (i - 2));
            Run.of(seven.toString()).due(5 * 27 + 9 + 3, "cost -1");
        })
            .breaks(costOf, "product *= web.nodes[i].size;", "product += web.nodes[i].size;")
            .breaks(costOf, "together += product;", "together = Math.max(together, product);")
            .breaks(costOf, "product *= web.nodes[i].size;", "product *= 2;")
            .breaks(costOf, "int i = 0; i < web.size", "int i = 0; i < web.size - 1");
    }

    private static void refusalsOfCost(Sentences s) {
        String cost = "public int cost(";
        String once = "private boolean tellsEachNodeOnce(";
        s.of(25, "BAD: no such SHEET;", "below NONE, 4", () -> Run.of(RING)
            .refuses(BAD, "cost -2", "cost 4", "cost 5", "cost " + GREATEST, "cost " + LEAST))
            .breaks(cost, "if (sheet == NONE)", "if (sheet <= NONE)")
            .breaks(cost, "return BAD;", "return MISSING;")
            .breaks("private static boolean isSheet(", "sheet < SHEETS", "sheet <= SHEETS");
        s.of(25, "-11;", "missing, also where there are no NODES", () -> {
            Run.of(RING).refuses(MISSING, "cost 0", "cost 3");
            Run.of().refuses(MISSING, "cost 0", "cost 3");
            Run.of(RING, "sheet 1 0 5;sheet 1 -1 5").refuses(MISSING, "cost 1");
        })
            .breaks(cost, "if (s.isMissing()) return MISSING;", "")
            .breaks(cost, "return MISSING;", "return BAD;");
        s.of(25, "STATE: it doesn't tell each NODE once.", "one fewer, one more", () -> Run.of(RING).fills(0, 0, 0, 1, 2, 3)
            .refuses(STATE, "cost 0").fills(0, 0, 0, 1, 2, 3, 4, 4).refuses(STATE, "cost 0").fills(0, 0, 0, 1, 2, 3, 4, -1)
            .refuses(STATE, "cost 0").fills(0, 0).refuses(STATE, "cost 0"))
            .breaks(once, "s.size != web.size", "s.size < web.size")
            .breaks(once, "if (s.size != web.size) return false;",
                "if (s.size > web.size) return false;\n        if (s.size < web.size) return true;");
        s.of(25, "STATE: it doesn't tell each NODE once.", "one twice, one that is none", () -> Run.of(RING)
            .fills(0, 0, 0, 1, 2, 3, 3).refuses(STATE, "cost 0").fills(0, 1, 0, 1, 2, 3, 5).refuses(STATE, "cost 0")
            .fills(0, 2, 0, 1, 2, 3, -1).refuses(STATE, "cost 0")
            .fills(0, 0, 0, 1, 2, 3, (1L << 32) + 4).refuses(STATE, "cost 0").fills(0, 0, 0, 1, 2, 3, 36).refuses(STATE, "cost 0")
            .fills(0, 0, 0, 1, 2, 3, Long.MIN_VALUE + 4).refuses(STATE, "cost 0"))
            .breaks(once, "return Integer.bitCount(seen) == web.size;", "return true;")
            .breaks(once, "s.items[i] < 0 ||", "")
            .breaks(once, "s.items[i] >= web.size", "s.items[i] > web.size")
            .breaks(once, "s.items[i] >= web.size", "(int) s.items[i] >= web.size");
        s.of(25, FIRST_NAMED, "-11 ahead of STATE", () -> Run.of(RING).refuses(MISSING, "cost 2"))
            .breaks(cost, "if (s.isMissing()) return MISSING;",
                "if (!tellsEachNodeOnce(s)) return STATE;\n        if (s.isMissing()) return MISSING;");
    }
}
