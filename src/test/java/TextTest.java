/** Promises 7 and 8: THE TAPE, and what it tells. */
public final class TextTest {
    public static void main(String[] args) {
        promise7Feed();
        promise8Clauses();
        promise8Refused();
        promise8Faults();
        promise8FaultChangesNothing();
        Check.end("TextTest");
    }

    private static void promise7Feed() {
        FindingsWeb x = new FindingsWeb();
        Check.due("least byte", x.feed(0), 1);
        Check.due("greatest byte", x.feed(255), 2);
        Check.due("no byte", x.feed(256), FindingsWeb.BAD);
        Check.due("no byte", x.feed(-1), FindingsWeb.BAD);
        for (int i = 3; i <= 60; i++) Check.due("more", x.feed(i), i);
        Check.due("a 61st", x.feed(32), FindingsWeb.FULL);
        Check.due("BAD is named first", x.feed(256), FindingsWeb.BAD);
        Check.due("how many", x.count(4), 60);
        Check.due("a byte that begins no TOKEN", x.text(), -100);
        Check.due("empty, by a FAULT, too", x.count(4), 0);
        Check.due("from the start", x.feed(65), 1);
    }

    private static void promise8Clauses() {
        FindingsWeb x = new FindingsWeb();
        Check.due("all NODES", Check.read(x, "node 3 9 9;node 2 0 9;most 2 0 1;least 3 1 0;sum 2 3 2"), 5);
        int[][] all = {{3, 0, -1, -1}, {2, 0, 0, -1}, {2, 1, 0, 1}, {3, 2, 1, 0}, {2, 3, 3, 2}};
        for (int node = 0; node < 5; node++) {
            for (int what = 0; what < 4; what++) Check.due("of", x.of(node, what), all[node][what]);
        }
        Check.due("the rest", Check.read(x, "row 1 2 3 9 0 ; told 2 1 ; done 3 2 ; hint 0 1 2 3"), 4);
        Check.due("row", x.cell(1, 2, 0) * 100 + x.cell(1, 2, 1), 309);
        Check.due("told", x.of(2, 4), 1);
        Check.due("done", x.of(3, 5), 2);
        Check.that("hint", Check.line(x, 0).equals("0/3 hint 1:2:3"));
        Check.due("9 for NONE", Check.read(x, "told 2 9;done 3 09"), 2);
        Check.due("none", x.of(2, 4), -1);
        Check.due("none", x.of(3, 5), -1);
        Check.due("0 ahead", Check.read(x, "row 01 00 12 00 00;told 04 01"), 2);
        Check.due("row", x.cell(1, 0, 0), 12);
        Check.due("no blanks needed behind a WORD", Check.read(x, "told4 0;done4 1;  row1 1 11 1 0  "), 3);
        Check.due("done", x.of(4, 5), 1);
        Check.due("empty then", x.count(4), 0);
    }

    private static void promise8Refused() {
        FindingsWeb x = new FindingsWeb();
        Check.due("one of three", Check.read(x, "node 4 9 9; node 2 9 9; most 2 9 9"), 1);
        Check.due("none of them", Check.read(x, "told 0 2; told 9 0; done 1 0; hint 0 10 0 0"), 0);
        Check.due("none of them", Check.read(x, "row 0 1 6 6 0; row 0 0 6 5 0; row 0 0 6 5 1"), 0);
        Check.due("in their order", Check.read(x, "told 1 1; node 2 0 9; told 1 1; told 1 0"), 3);
        Check.due("the last told", x.of(1, 4), 0);
        Check.due("9 is no NONE for a NODE's SIZE", Check.read(x, "node 9 9 9"), 0);
        Check.due("until it is full", Check.read(x, "node 2 9 9;node 2 9 9;node 2 9 9;node 2 9 9;node 2 9 9"), 5);
        Check.due("FULL", Check.read(x, "node 2 9 9;told 6 0"), 1);
        Check.due("9 is a number for hint and row", Check.read(x, "hint 0 9 9 9;row 0 0 9 3 0"), 2);
        Check.due("12 twelfths, nine times", x.odds(0, 0, 0) * 10 + x.odds(0, 0, 1), 34);
    }

    private static void promise8Faults() {
        Object[][] faults = {
            {"", 0}, {"   ", 3}, {";", 0}, {" ;", 1}, {"node", 4}, {"node ", 5}, {"node 2 9", 8}, {"node 2 9 ", 9},
            {"node 2 9 9;", 11}, {"node 2 9 9; ", 12}, {"node 2 9 9;;", 11}, {"node 2 9 9 9", 11}, {"node 2 9;", 8},
            {"node 2 9 9 node 2 9 9", 11}, {"node 2 told", 7}, {"2", 0}, {"nod 2 9 9", 0}, {"nodes 2 9 9", 0},
            {"Node 2 9 9", 0}, {"noDe 2 9 9", 0}, {"nodeX 2 9 9", 4}, {"node,2 9 9", 4}, {"node 2 -9 9", 7},
            {"node 2 123 9", 7}, {"node 2 009 9", 7}, {"node 2 9 9; x", 12}, {"node 2 9 9;told 0", 17},
            {"123", 0}, {"node 2 9 9\n", 10}, {"node\t2 9 9", 4}, {"told 0 1; hint 0 1 1", 20}, {"row 0 0 6 6", 11},
            {"told 0 1 ; done 0 000", 18}, {"\u00ff", 0}, {"sum 2 0 9 9 9", 10}, {"done 0 1hint", 8},
            {"told 0 1;12", 9}, {"hintnode 0 1 1 1", 0}, {"told 0 1;nodes 2 9 9", 9}, {"told 0 1 123", 9},
            {"xode 2 9 9", 0}, {"nodz 2 9 9", 0}, {"nodez 2 9 9", 0}, {"nodea 2 9 9", 0}, {"node` 2 9 9", 4}, {"node{ 2 9 9", 4},
            {"node 2/9 9", 6}, {"node 2:9 9", 6}, {"dold 0 1", 0}, {"a", 0}, {"z", 0}};
        for (Object[] f : faults) {
            FindingsWeb x = new FindingsWeb();
            Check.due("\"" + f[0] + "\"", Check.read(x, (String) f[0]), -100 - (Integer) f[1]);
            Check.due("nothing done", x.count(0), 0);
            Check.due("empty then", x.count(4), 0);
        }
    }

    private static void promise8FaultChangesNothing() {
        FindingsWeb x = Check.web("node 2 9 9");
        Check.due("a FAULT at the very end", Check.read(x, "told 0 1; done 0 1; row 0 0 12 0 0; node 2 0 9;"), -147);
        Check.that("as it was", Check.line(x, 0).equals("0/2"));
        Check.due("as it was", x.count(0), 1);
        Check.due("as it was", x.cell(0, 0, 0), 6);
        Check.due("60 bytes", Check.read(x, "told 0 1" + " ".repeat(52)), 1);
        Check.due("60 bytes that end too early", Check.read(x, "told 0 " + " ".repeat(53)), -160);
    }
}
