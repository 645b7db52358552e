/** Promises 20 to 22, sentence by sentence. */
final class SentencesOfCutOff {
    private static final int NONE = Run.NONE, BAD = Run.BAD, STATE = Run.STATE;
    private static final long NO = Run.NO;
    private static final String GREATEST = "2147483647", LEAST = "-2147483648";
    private static final String CUT_OFF = "CUT OFF are two NODES, if one has a FINDING, or no WAY leads from one to the other.";
    // that no NODE comes twice can't be seen: where a WAY with one twice leads, one without leads, too
    private static final String WAY = "A WAY goes from NODE to NODE, each a PARENT of the next one or the other way about "
        + "(not between one that is DONE and its PARENTS), no NODE twice; each NODE between two: if both are PARENTS of it (by the WAY), "
        + "it or one below it (a NODE whose PARENT it is and that isn't DONE, and so on) has a FINDING or is HINTED; else it has no FINDING.";
    private static final String TELLS = "TELLS of a NODE x for another one h: for each value of x the greatest, of all values of h, "
        + "of the WEIGHTS (together) of WORLDS with both; these of all values of x together, over the WEIGHT of all.";
    private static final String TELLING = "TELLING for h: of NODES but h without a FINDING that aren't DONE that of greatest TELLS, of several the least number.";
    /** 0 and 1 are PARENTS of 2, 2 is of 3, 3 is of 4. */
    private static final String BELOW = "node 2 0 -1 -1;node 2 0 -1 -1;node 2 0 0 1;node 2 0 2 -1;node 2 0 3 -1";
    private static final String CHAIN = "node 2 0 -1 -1;node 2 0 0 -1;node 2 0 1 -1;node 2 0 -1 -1";
    /** WEIGHTS: (0, 0) 36, (0, 1) 0, (1, 0) 36, (1, 1) 72; together 144. */
    private static final String TWO = "node 2 0 -1 -1;node 2 0 0 -1;row 0 0 3 9 0;row 1 0 12 0 0;row 1 1 4 8 0";
    private static final String IS_OPEN = "private static boolean isOpen(";
    private static final String LEADS_ON = "private static boolean leadsOn(";
    private static final String EVIDENCE = "boolean hasEvidenceFrom(";

    private SentencesOfCutOff() { }

    static void tell(Sentences s) {
        apart(s);
        between(s);
        done(s);
        bothParents(s);
        below(s);
        tells(s);
        telling(s);
        refusalsOfTelling(s);
    }

    private static void apart(Sentences s) {
        String apart = "public int apart(";
        s.of(20, "Whether two are CUT OFF: 1, 0.", "in either order", () -> Run.of(CHAIN)
            .due(1, "apart 0 3", "apart 3 0", "apart 2 3").due(0, "apart 0 1", "apart 1 0", "apart 0 2", "apart 2 0"))
            .breaks(apart, "? 0 : 1;", "? 1 : 0;")
            .breaks(apart, "Way.leads(web, node, other)", "node < other && Way.leads(web, node, other)")
            .breaks(apart, "Way.leads(web, node, other)", "node > other && Way.leads(web, node, other)");
        s.of(20, "BAD: NODES, one twice.", "NODES", () -> Run.of(CHAIN)
            .refuses(BAD, "apart -1 0", "apart 0 -1", "apart 4 0", "apart 0 4", "apart 6 5", "apart 7 0", "apart 0 7",
                "apart " + GREATEST + " 0", "apart 0 " + LEAST))
            .breaks(apart, "!web.has(node)", "node < 0 || node >= NODES")
            .breaks(apart, "!web.has(other)", "other < 0 || other >= NODES")
            .breaks(apart, "return BAD;", "return 1;");
        s.of(20, "BAD: NODES, one twice.", "one twice, told or not", () -> Run.of(CHAIN, "told 1 0")
            .refuses(BAD, "apart 0 0", "apart 1 1", "apart 3 3", "apart 4 4", "apart -1 -1"))
            .breaks(apart, " || node == other", "")
            .breaks(apart, "node == other) return BAD;", "node == other) return 0;")
            .breaks(apart, "if (!web.has(node)",
                "if (web.has(node) && web.nodes[node].finding != NONE) return 1;\n        if (!web.has(node)");
        s.of(20, CUT_OFF, "one has a FINDING, either", () -> Run.of(CHAIN, "told 1 0")
            .due(1, "apart 0 1", "apart 1 0", "apart 1 2", "apart 1 3").due(0, "told 1 -1").due(0, "apart 0 1", "apart 1 2")
            .due(NONE, "told 0 1").due(1, "apart 0 1", "apart 1 0", "apart 2 0").due(0, "apart 1 2"))
            .breaks(apart, "web.nodes[node].finding != NONE || ", "")
            .breaks(apart, " || web.nodes[other].finding != NONE", "")
            .breaks(apart, "web.nodes[other].finding != NONE", "web.nodes[other].finding > 0");
        s.of(20, CUT_OFF, "both have one", () -> Run.of(CHAIN, "told 0 0;told 1 0").due(1, "apart 0 1", "apart 1 0"))
            .breaks(apart, "finding != NONE || web", "finding != NONE ^ web");
        s.of(20, CUT_OFF, "no WAY, a WAY by all seven", () -> {
            Run.of("node 2 0 -1 -1;node 2 0 -1 -1").due(1, "apart 0 1");
            StringBuilder seven = new StringBuilder("node 2 0 -1 -1");
            for (int i = 1; i < 7; i++) seven.append(";node 2 0 " + (i - 1) + " -1");
            Run.of(seven.toString()).due(0, "apart 0 6", "apart 6 0").due(NONE, "told 3 0")
                .due(1, "apart 0 6", "apart 6 0", "apart 2 4").due(0, "apart 0 2", "apart 4 6");
        })
            .breaks(LEADS_ON, "depth >= NODES", "depth >= NODES - 2")
            .breaks(LEADS_ON, "return false;\n        }", "return true;\n        }")
            .breaks(LEADS_ON, "int next = 0;", "int next = 1;");
    }

    private static void between(Sentences s) {
        s.of(20, WAY, "PARENT of the next one, or the other way about", () -> {
            Run.of(CHAIN).due(0, "apart 0 1", "apart 1 0", "apart 0 2", "apart 2 0");
            Run.of("node 2 0 -1 -1;node 2 0 0 -1;node 2 0 0 -1").due(0, "apart 1 2", "apart 2 1");
            Run.of("node 2 0 -1 -1;node 2 0 -1 -1;node 3 0 0 1").due(0, "apart 1 2", "apart 2 1", "apart 0 2")
                .due(1, "apart 0 1");
        })
            .breaks(LEADS_ON, "!web.heeds(at, next) && ", "")
            .breaks(LEADS_ON, " && !web.heeds(next, at)", "")
            .breaks("boolean isParent(", " || nodes[node].q == parent", "")
            .breaks("boolean isParent(", "nodes[node].p == parent || ", "");
        s.of(20, WAY, "one between has no FINDING", () -> {
            Run.of(CHAIN).due(0, "apart 0 2").due(NONE, "told 1 0").due(1, "apart 0 2", "apart 2 0")
                .due(0, "told 1 -1", "apart 0 2");
            Run.of("node 2 0 -1 -1;node 2 0 0 -1;node 2 0 0 -1").due(NONE, "told 0 0").due(1, "apart 1 2")
                .due(0, "told 0 -1", "apart 1 2");
        })
            .breaks(IS_OPEN, "return web.nodes[at].finding == NONE;", "return true;")
            .breaks(IS_OPEN, "finding == NONE", "finding <= 0");
        s.of(20, WAY, "one between may be HINTED", () -> Run.of(CHAIN, "hint 1 0 1 0").due(0, "apart 0 2", "apart 2 0"))
            .breaks(IS_OPEN, "return web.nodes[at].finding == NONE;", "return !web.nodes[at].isEvidence();");
        s.of(20, WAY, "the two themselves may be HINTED, or DONE", () -> Run.of(CHAIN, "hint 0 0 1 0;hint 2 0 1 0;done 0 1")
            .due(0, "apart 0 2", "apart 2 0"))
            .breaks("public int apart(", "web.nodes[other].finding != NONE", "web.nodes[other].isEvidence()")
            .breaks("public int apart(", "web.nodes[node].finding != NONE", "web.nodes[node].doneTo != NONE");
        s.of(20, WAY, "another WAY, where one is closed", () -> Run.of("node 2 0 -1 -1;node 2 0 0 -1;node 2 0 0 -1;node 2 0 1 2")
            .due(0, "apart 0 3").due(NONE, "told 1 0").due(0, "apart 0 3", "apart 3 0").due(NONE, "told 2 0").due(1, "apart 0 3"))
            .breaks(LEADS_ON, "if (leadsOn(web, at, next, goal, seen | 1 << next, depth + 1)) return true;",
                "return leadsOn(web, at, next, goal, seen | 1 << next, depth + 1);");
    }

    private static void done(Sentences s) {
        String heeds = "boolean heeds(int node, int parent)";
        s.of(20, WAY, "not between one that is DONE and its PARENTS", () -> Run.of(CHAIN, "done 1 0")
            .due(1, "apart 0 1", "apart 1 0", "apart 0 2").due(0, "apart 1 2", "apart 2 1").due(0, "done 1 -1")
            .due(0, "apart 0 1"))
            .breaks(heeds, "nodes[node].doneTo == NONE && ", "")
            .breaks(heeds, "nodes[node].doneTo == NONE", "nodes[node].doneTo <= 0")
            .breaks(heeds, "nodes[node].doneTo == NONE", "nodes[node].doneTo == NONE && nodes[parent].doneTo == NONE");
        s.of(20, WAY, "neither of two PARENTS, though told", () -> Run.of(BELOW, "told 2 1").due(0, "apart 0 1")
            .due(NONE, "done 2 1").due(1, "apart 0 1", "apart 1 0").due(1, "told 2 -1")
            .due(1, "apart 0 1", "apart 0 2", "apart 0 3", "apart 1 2", "apart 1 3").due(0, "apart 2 4"))
            .breaks(heeds, "nodes[node].doneTo == NONE && ", "")
            .breaks(heeds, "nodes[node].doneTo == NONE && isParent(parent, node)",
                "isParent(parent, node) && (nodes[node].doneTo == NONE || nodes[node].q == parent)");
        s.of(20, WAY, "one between that is DONE leads from child to child",
            () -> Run.of("node 2 0 -1 -1;node 2 0 0 -1;node 2 0 1 -1;node 2 0 1 -1;done 1 0").due(0, "apart 2 3", "apart 3 2")
                .due(1, "apart 0 2"))
            .breaks(IS_OPEN, "return web.nodes[at].finding == NONE;",
                "return web.nodes[at].finding == NONE && web.nodes[at].doneTo == NONE;");
    }

    private static void bothParents(Sentences s) {
        s.of(20, WAY, "both are PARENTS of it, and it has a FINDING", () -> Run.of(BELOW).due(1, "apart 0 1")
            .due(NONE, "told 2 0").due(0, "apart 0 1", "apart 1 0").due(0, "told 2 -1").due(1, "apart 0 1"))
            .breaks(IS_OPEN, "return web.hasEvidenceFrom(at);", "return true;")
            .breaks(IS_OPEN, "return web.hasEvidenceFrom(at);", "return false;")
            .breaks("boolean isEvidence()", "finding != NONE", "finding > 0");
        s.of(20, WAY, "both are PARENTS of it, and it is HINTED", () -> Run.of(BELOW, "hint 2 0 1 0")
            .due(0, "apart 0 1", "apart 1 0").due(1, "hint 2 3 3 0").due(1, "apart 0 1"))
            .breaks("boolean isEvidence()", " || isHinted()", "")
            .breaks("boolean isEvidence()", "isHinted()", "isHinted() && hints[0] > 0");
        s.of(20, WAY, "PARENTS by the WAY alone", () -> Run.of(BELOW).due(0, "apart 0 3", "apart 3 0", "apart 1 4")
            .due(NONE, "told 2 0").due(1, "apart 0 3", "apart 1 3"))
            .breaks(IS_OPEN, "web.isParent(before, at) && web.isParent(next, at)", "web.isParent(before, at)")
            .breaks(IS_OPEN, "web.isParent(before, at) && web.isParent(next, at)", "web.isParent(next, at)")
            .breaks(IS_OPEN, "web.isParent(before, at) && web.isParent(next, at)", "web.nodes[at].q != NONE");
    }

    private static void below(Sentences s) {
        String heedsAny = "private boolean heedsAny(";
        s.of(20, WAY, "one below it, and below that", () -> Run.of(BELOW).due(NONE, "told 3 0").due(0, "apart 0 1")
            .due(0, "told 3 -1").due(1, "apart 0 1").due(NONE, "told 4 1").due(0, "apart 0 1").due(1, "told 4 -1")
            .due(0, "hint 4 1 0 0", "apart 0 1"))
            .breaks(EVIDENCE, "below |= 1 << i;", "below |= 0;")
            .breaks(EVIDENCE, "below |= 1 << i;", "below = 1 << node | 1 << i;\n                if (i > node + 1) below = 0;")
            .breaks(EVIDENCE, "i < size;", "i <= node + 1;")
            .breaks(EVIDENCE, "i < size;", "i <= node;");
        s.of(20, WAY, "one below it, behind another one", () -> Run.of("node 2 0 -1 -1;node 2 0 -1 -1;node 2 0 0 1")
            .due(3, "node 2 0 2 -1").due(4, "node 2 0 2 -1").due(5, "node 2 0 3 -1").due(6, "node 2 0 4 -1").due(1, "apart 0 1")
            .due(NONE, "told 4 0").due(0, "apart 0 1", "told 4 -1").due(NONE, "told 5 0").due(0, "apart 0 1", "told 5 -1")
            .due(1, "apart 0 1").due(0, "hint 6 1 0 0", "apart 0 1"))
            .breaks(EVIDENCE, "below |= 1 << i;", "below = 1 << i;");
        s.of(20, WAY, "one below it by its second PARENT", () -> Run.of(BELOW, "node 2 0 4 2;told 5 1").due(0, "apart 0 1")
            .due(NONE, "done 3 0").due(0, "apart 0 1"))
            .breaks(heedsAny, " || n.q != NONE && (parents >> n.q & 1) != 0", "");
        s.of(20, WAY, "not through one that is DONE", () -> Run.of(BELOW, "told 4 1;done 3 0").due(1, "apart 0 1")
            .due(0, "done 3 -1").due(0, "apart 0 1").due(NONE, "done 4 0").due(1, "apart 0 1").due(NONE, "told 3 0")
            .due(0, "apart 0 1").due(NONE, "done 3 1").due(1, "apart 0 1"))
            .breaks(heedsAny, "if (n.doneTo != NONE) return false;", "")
            .breaks(heedsAny, "n.doneTo != NONE", "n.doneTo > 0");
        s.of(20, WAY, "not what isn't below it",
            () -> Run.of(BELOW, "node 2 0 0 -1;node 2 0 -1 -1;told 5 0;told 6 1;hint 0 1 2 0;hint 1 1 2 0")
                .due(1, "apart 0 1", "apart 1 0"))
            .breaks(EVIDENCE, "if ((below >> i & 1) != 0 && nodes", "if (nodes");
        s.of(20, WAY, "not what has two PARENTS that aren't below it",
            () -> Run.of("node 2 0 -1 -1;node 2 0 -1 -1;node 2 0 0 1;node 2 0 -1 -1;node 2 0 0 3;told 4 1")
                .due(1, "apart 0 1", "apart 1 3").due(0, "apart 0 3", "apart 2 3"))
            .breaks(heedsAny, "n.q != NONE && (", "n.q != NONE || (")
            .breaks(heedsAny, "(parents >> n.q & 1)", "(parents | n.q & 1)");
        s.of(20, WAY, "not what has PARENTS of lower numbers than it, nor of one lower and one greater", () -> {
            for (String both : new String[] {"3 0", "0 3", "3 1", "1 3", "1 0", "0 1", "0 -1", "3 -1"}) {
                Run.of("node 2 0 -1 -1;node 2 0 -1 -1;node 2 0 0 1;node 2 0 -1 -1;node 2 0 -1 -1", "node 2 0 " + both, "hint 5 1 2 0")
                    .due(both.equals("0 1") || both.equals("1 0") ? 0 : 1, "apart 0 1", "apart 1 0");
            }
        })
            .breaks(heedsAny, "(parents >> n.q & 1) != 0", "(parents >> n.q) != 0")
            .breaks(heedsAny, "(parents >> n.p & 1) != 0", "(parents >> n.p) != 0")
            .breaks(heedsAny, "(parents >> n.p & 1)", "(node >> n.p & 1)")
            .breaks(heedsAny, "(parents >> n.q & 1)", "(node >> n.q & 1)");
    }

    private static void tells(Sentences s) {
        String tells = "public long tells(";
        String guesses = "long weighGuesses(";
        s.of(21, "TELLS of a NODE (other, the x) for another one (node, the h).", "which is which", () -> {
            Run.of("node 3 0 -1 -1;node 2 1 0 -1").fraction(2, 3, "tells 0 1").fraction(1, 1, "tells 1 0");
            Run.of(TWO, "told 1 0").fraction(1, 2, "tells 0 1").fraction(1, 1, "tells 1 0");
        })
            .breaks(tells, "weighGuesses(web, node, other)", "weighGuesses(web, other, node)");
        s.of(21, TELLS, "for each value of x the greatest of h", () -> {
            Run.of(TWO).fraction(3, 4, "tells 0 1", "tells 1 0").due(0, "hint 1 1 3 0").fraction(7, 8, "tells 0 1");
            Run.of("node 3 0 -1 -1;node 3 0 0 -1;row 1 0 1 2 9;row 1 1 2 9 1;row 1 2 9 1 2")
                .fraction(3, 4, "tells 0 1", "tells 1 0");
        })
            .breaks(guesses, "most = Math.max(most, weighBoth(web, node, h, other, x));",
                "most += weighBoth(web, node, h, other, x);")
            .breaks(guesses, "together += most;", "together = Math.max(together, most);")
            .breaks(guesses, "int h = 0;", "int h = 1;")
            .breaks(guesses, "h < web.nodes[node].size;", "h < 2;")
            .breaks(guesses, "x < web.nodes[other].size;", "x < 2;")
            .breaks(guesses, "long most = 0;", "long most = 40;");
        s.of(21, TELLS, "h has more values than x, x has more than h, the last is the greatest", () -> Run
            .of("node 3 0 -1 -1;node 2 0 -1 -1;row 0 0 1 2 9").fraction(3, 4, "tells 0 1").fraction(1, 2, "tells 1 0")
            .due(1, "row 1 0 1 11 0").fraction(3, 4, "tells 0 1").fraction(11, 12, "tells 1 0"))
            .breaks(guesses, "h < web.nodes[node].size;", "h < web.nodes[other].size;")
            .breaks(guesses, "h < web.nodes[node].size;", "h < web.nodes[x].size;")
            .breaks(guesses, "x < web.nodes[other].size;", "x < web.nodes[node].size - 1;");
        s.of(21, TELLS, "of one with a FINDING, of one that is DONE", () -> Run.of(TWO, "told 1 0").fraction(1, 2, "tells 0 1")
            .due(NONE, "done 1 0").fraction(3, 4, "tells 0 1").fraction(1, 1, "tells 1 0").due(0, "told 1 -1")
            .fraction(3, 4, "tells 0 1"))
            .breaks(tells, "return fraction(",
                "if (web.nodes[other].finding != NONE || web.nodes[other].doneTo != NONE) return STATE;\n        return fraction(")
            .breaks(tells, "worlds.weighAll(web), line", "144, line");
        s.of(21, "NO: a number, one twice;", "NODES, one twice", () -> {
            String[] calls = {"tells -1 0 0", "tells 0 -1 0", "tells 2 0 0", "tells 0 2 1", "tells 7 0 0", "tells 0 7 0",
                "tells " + GREATEST + " 0 0", "tells 0 " + LEAST + " 0", "tells 0 0 0", "tells 1 1 1", "tells 2 2 0"};
            Run.of(TWO).refuses(NO, calls);
            Run.of(TWO, "hint 0 0 0 0").refuses(NO, calls);
        })
            .breaks(tells, "!web.has(node)", "node < 0 || node >= NODES")
            .breaks(tells, "!web.has(other)", "other < 0 || other >= NODES")
            .breaks(tells, "node == other || ", "")
            .breaks(tells, "return NO;", "return BAD;");
        s.of(21, "NO: a number, one twice;", "line", () -> Run.of(TWO)
            .refuses(NO, "tells 0 1 -1", "tells 0 1 2", "tells 1 0 " + GREATEST))
            .breaks(tells, " || !isLine(line)", "")
            .breaks("private static boolean isLine(", "|| line == 1", "|| line >= 1")
            .breaks("private static boolean isLine(", "line == 0 ||", "line <= 0 ||");
        s.of(21, "STATE.", "both lines; NO is first", () -> Run.of(TWO, "hint 0 0 0 0")
            .refuses(STATE, "tells 0 1 0", "tells 0 1 1", "tells 1 0 0").refuses(NO, "tells 0 0 0", "tells 0 2 0", "tells 0 1 2"))
            .breaks(tells, "if (!web.has(node)", "if (worlds.weighAll(web) == 0) return STATE;\n        if (!web.has(node)")
            .breaks("private static long fraction(", "if (below == 0) return STATE;", "if (below == 0) return 0;");
    }

    private static void telling(Sentences s) {
        String telling = "public int telling(";
        String three = "node 2 0 -1 -1;node 2 0 0 -1;node 2 0 0 -1;node 2 0 -1 -1;row 1 0 9 3 0;row 1 1 3 9 0;row 2 0 11 1 0;row 2 1 1 11 0";
        s.of(22, "TELLING;", "of each NODE", () -> {
            Run.of(three).due(2, "telling 0").due(0, "telling 1", "telling 2", "telling 3");
            Run.of("node 2 0 -1 -1;node 2 0 -1 -1;node 2 0 0 -1;row 1 0 11 1 0;row 2 0 9 3 0;row 2 1 3 9 0").due(2, "telling 0")
                .due(0, "telling 2");
        })
            .breaks(telling, "return best;", "return 0;")
            .breaks(telling, "weighGuesses(web, node, x)", "weighGuesses(web, x, node)")
            .breaks(telling, "if (guesses > most)", "if (true)");
        s.of(22, TELLING, "not h itself", () -> Run.of(three).due(2, "telling 0").due(0, "telling 3"))
            .breaks(telling, "x == node || ", "")
            .breaks(telling, "x == node", "x <= node");
        s.of(22, TELLING, "none with a FINDING", () -> {
            Run.of(three, "told 2 0").due(1, "telling 0").due(0, "telling 2").due(0, "told 2 -1").due(2, "telling 0");
            Run.of("node 2 0 -1 -1;node 2 0 -1 -1;node 2 0 -1 -1;told 0 0").due(1, "telling 2", "telling 0").due(0, "told 0 1")
                .due(1, "telling 2", "told 0 -1").due(0, "telling 2");
        })
            .breaks(telling, "n.finding != NONE || ", "")
            .breaks(telling, "n.finding != NONE", "n.finding > 0");
        s.of(22, TELLING, "none that is DONE", () -> Run.of("node 2 0 -1 -1;node 2 0 0 -1;node 2 0 -1 -1;done 0 0")
            .due(2, "telling 1").due(1, "telling 0").due(0, "done 0 -1").due(0, "telling 1"))
            .breaks(telling, " || n.doneTo != NONE", "")
            .breaks(telling, "n.doneTo != NONE", "n.doneTo > 0");
        s.of(22, TELLING, "h itself may have a FINDING, may be DONE", () -> Run.of(three, "told 0 1").due(1, "telling 0")
            .due(NONE, "done 0 1").due(1, "telling 0").due(1, "told 0 -1").due(1, "telling 0"))
            .breaks(telling, "if (worlds.weighAll(web) == 0) return STATE;",
                "if (web.nodes[node].finding != NONE || web.nodes[node].doneTo != NONE) return NONE;");
        s.of(22, TELLING, "of several the least number", () -> Run.of(three, "row 2 0 9 3 0;row 2 1 3 9 0").due(1, "telling 0")
            .due(0, "telling 3"))
            .breaks(telling, "guesses > most", "guesses >= most")
            .breaks(telling, "int x = 0; x < web.size; x++", "int x = web.size - 1; x >= 0; x--");
    }

    private static void refusalsOfTelling(Sentences s) {
        String telling = "public int telling(";
        s.of(22, "NONE: there is none.", "one NODE, all others told or DONE", () -> {
            Run.of("node 2 0 -1 -1").due(NONE, "telling 0");
            Run.of("node 2 0 -1 -1;node 2 0 -1 -1;node 2 0 -1 -1;told 1 0;done 2 1").due(NONE, "telling 0")
                .due(0, "telling 1", "telling 2").due(NONE, "told 0 0", "telling 2");
        })
            .breaks(telling, "int best = NONE;", "int best = 0;")
            .breaks(telling, "return best;", "return best == NONE ? STATE : best;");
        s.of(22, "BAD;", "below 0, and as many as there are", () -> Run.of(TWO)
            .refuses(BAD, "telling -1", "telling 2", "telling 6", "telling 7", "telling " + GREATEST, "telling " + LEAST))
            .breaks(telling, "!web.has(node)", "node < 0 || node >= NODES")
            .breaks(telling, "return BAD;", "return NONE;");
        s.of(22, "STATE: the WEIGHT of all is 0.", "where there is one that may tell, where there is none; BAD is first", () -> {
            Run.of(TWO, "hint 0 0 0 0").refuses(STATE, "telling 0", "telling 1").refuses(BAD, "telling 2", "telling -1");
            Run.of("node 2 0 -1 -1;hint 0 0 0 0").refuses(STATE, "telling 0");
            Run.of(TWO, "told 1 0;done 1 1").refuses(STATE, "telling 0", "telling 1");
        })
            .breaks(telling, "if (worlds.weighAll(web) == 0) return STATE;", "")
            .breaks(telling, "if (!web.has(node))", "if (worlds.weighAll(web) == 0) return STATE;\n        if (!web.has(node))")
            .breaks(telling, "== 0) return STATE;", "== 0 && web.size > 1) return STATE;");
    }
}
