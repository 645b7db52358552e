/** Promises 26 to 32: draws, what SHEETS do to a web, the image, counts. */
public final class DrawsTest {
    public static void main(String[] args) {
        promise26Drawn();
        promise26Parents();
        promise26WhatDoesNotMatter();
        promise27Chance();
        promise27WrongNumbers();
        promise28Film();
        promise29Lay();
        promise29WrongSheets();
        promise30And31Image();
        promise31NothingElse();
        promise32Count();
        Check.end("DrawsTest");
    }

    /** (z >>> 9) % 12 of the first four NODES, reckoned apart from the program. */
    private static final int[][] MARKS = {
        {0, 0, 3, 7, 2}, {1, 7, 4, 6, 5}, {2, 2, 5, 0, 9}, {3, 9, 6, 10, 0}, {6, 11, 6, 10, 11}, {-1, 0, 6, 1, 10},
        {-7, 1, 2, 11, 5}, {Integer.MAX_VALUE, 8, 10, 5, 6}, {Integer.MIN_VALUE, 4, 11, 3, 10}};

    private static void promise26Drawn() {
        FindingsWeb x = Check.web("node 2 9 9;node 3 9 9;node 2 9 9;node 3 9 9", "row 1 0 3 3 6;row 2 0 0 12 0;row 3 0 11 0 1");
        for (int[] m : MARKS) {
            Check.due("drawn " + m[0] + " 0", x.drawn(m[0], 0), m[1] < 6 ? 0 : 1);
            Check.due("drawn " + m[0] + " 1", x.drawn(m[0], 1), m[2] < 3 ? 0 : m[2] < 6 ? 1 : 2);
            Check.due("drawn " + m[0] + " 2", x.drawn(m[0], 2), 1);
            Check.due("drawn " + m[0] + " 3", x.drawn(m[0], 3), m[4] < 11 ? 0 : 2);
        }
        x.done(1, 1);
        Check.due("DONE", x.drawn(3, 1), 1);
        for (int[] m : MARKS) Check.due("z goes on, too", x.drawn(m[0], 3), m[4] < 11 ? 0 : 2);
        Check.due("no NODE", x.drawn(0, 4), FindingsWeb.BAD);
        Check.due("no NODE", x.drawn(0, -1), FindingsWeb.BAD);
    }

    private static void promise26Parents() {
        FindingsWeb x = Check.web("node 2 9 9;node 2 0 9;sum 2 0 1;node 2 2 9", "row 1 0 5 7 0;row 1 1 2 10 0",
            "row 3 0 12 0 0;row 3 1 1 11 0");
        for (int[] m : MARKS) {
            int first = m[1] < 6 ? 0 : 1;
            int second = m[2] < (first == 0 ? 5 : 2) ? 0 : 1;
            int sum = (first + second) % 2;
            int last = sum == 0 || m[4] < 1 ? 0 : 1;
            Check.due("a TABLE by its PARENT", x.drawn(m[0], 1), second);
            Check.due("a SUM", x.drawn(m[0], 2), sum);
            Check.due("by a SUM", x.drawn(m[0], 3), last);
        }
        x.done(2, 0);
        for (int[] m : MARKS) Check.due("by one that is DONE", x.drawn(m[0], 3), 0);
    }

    private static void promise26WhatDoesNotMatter() {
        FindingsWeb x = Check.web("node 2 9 9;told 0 1;hint 0 0 9 9");
        Check.due("neither FINDINGS nor HINTS", x.drawn(0, 0), 0);
        Check.due("not even without a WEIGHT", Check.read(x, "hint 0 0 0 0"), 1);
        Check.due("the same", x.drawn(0, 0), 0);
    }

    private static void chance(FindingsWeb x, int seed, int m, int node, int v, long above, long below) {
        Check.fraction("chance " + seed + " " + m, x.chance(seed, m, node, v, 0), x.chance(seed, m, node, v, 1), above, below);
    }

    /** NODE 0 by seeds 0 .. 7: 0 1 0 1 1 0 1 1 (marks 0 7 2 9 8 4 11 6); NODE 1: 0 0 0 1 0 0 1 1 (3 4 5 6 4 5 6 7). */
    private static void promise27Chance() {
        FindingsWeb x = Check.web("node 2 9 9;node 2 9 9");
        chance(x, 0, 8, 0, 1, 5, 8);
        chance(x, 0, 8, 0, 0, 3, 8);
        chance(x, 0, 2, 0, 1, 1, 2);
        chance(x, 0, 1, 0, 0, 1, 1);
        chance(x, 0, 1, 0, 1, 0, 1);
        x.told(1, 0);
        chance(x, 0, 8, 0, 1, 2, 5);
        chance(x, 0, 8, 1, 0, 1, 1);
        chance(x, 0, 8, 1, 1, 0, 1);
        x.told(0, 0);
        chance(x, 0, 8, 1, 0, 1, 1);
        for (int line = 0; line < 2; line++) Check.due("none fits", x.chance(3, 1, 0, 0, line), FindingsWeb.STATE);
        x.hint(0, 0, 0, 0);
        chance(x, 0, 8, 1, 0, 1, 1);
        x.told(0, -1);
        x.told(1, -1);
        x.done(0, 1);
        chance(x, 0, 8, 0, 1, 1, 1);
        x.done(0, -1);
        // marks 8 (seed 2147483647), then 4 (seed -2147483648): an int goes on below 0
        chance(x, Integer.MAX_VALUE, 2, 0, 1, 1, 2);
    }

    private static void promise27WrongNumbers() {
        FindingsWeb x = Check.web("node 2 9 9;node 2 9 9;told 0 1;done 0 0");
        int[][] bad = {{0, 0, 0, 0}, {9, 0, 0, 0}, {-1, 0, 0, 0}, {8, 2, 0, 0}, {8, -1, 0, 0}, {8, 0, 2, 0},
            {8, 0, -1, 0}, {8, 0, 0, 2}, {8, 0, 0, -1}, {Integer.MAX_VALUE, 0, 0, 0}};
        for (int[] b : bad) Check.due("chance", x.chance(1, b[0], b[1], b[2], b[3]), FindingsWeb.BAD);
        Check.due("none fits", x.chance(1, 8, 0, 0, 0), FindingsWeb.STATE);
    }

    private static void items(FindingsWeb x, int sheet, long... want) {
        for (int i = 0; i < want.length; i++) Check.due("item " + i, x.item(sheet, i), want[i]);
        Check.due("no more", x.item(sheet, want.length), FindingsWeb.NO);
    }

    private static void promise28Film() {
        FindingsWeb x = Check.web("node 3 9 9;node 2 0 9;hint 0 1 2 5;hint 1 0 2 0");
        Check.due("a missing one", x.film(3), 2);
        items(x, 3, 2, 1);
        Check.due("ints", x.put(3, 0, (1L << 32) + 7), 1);
        items(x, 3, 7, 1);
        Check.fill(x, 3, 2, 1, 2, 3);
        Check.due("one of bytes", x.film(3), 2);
        items(x, 3, 2, 1);
        Check.due("ints", x.lay(3, 1), 2);
        x.told(0, 0);
        Check.due("truly", x.lay(3, 1), 2);
        Check.due("no SHEET", x.film(4), FindingsWeb.BAD);
        Check.due("no SHEET", x.film(-1), FindingsWeb.BAD);
        x.hint(1, 0, 0, 0);
        Check.fill(x, 0, 0, 8, 9, 10);
        Check.due("no WEIGHT", x.film(0), FindingsWeb.STATE);
        items(x, 0, 8, 9, 10);
        Check.due("no SHEET, named first", x.film(4), FindingsWeb.BAD);
        FindingsWeb none = new FindingsWeb();
        Check.due("of no NODES", none.film(0), 0);
        items(none, 0);
        Check.due("not missing", none.lay(0, 1), 0);
    }

    private static void findings(FindingsWeb x, int... want) {
        for (int node = 0; node < want.length; node++) Check.due("finding " + node, x.of(node, 4), want[node]);
    }

    private static void promise29Lay() {
        FindingsWeb x = Check.web("node 2 9 9;node 3 9 9;node 2 9 9;told 2 1");
        for (int sort = 0; sort < 3; sort++) {
            Check.fill(x, sort, sort, 1, 2, -1);
            Check.due("two", x.lay(sort, sort), 2);
            findings(x, 1, 2, -1);
            Check.fill(x, sort, sort, -1, -1, -1);
            Check.due("none", x.lay(sort, sort), 0);
            findings(x, -1, -1, -1);
            Check.fill(x, sort, sort, 0, 0, 0);
            Check.due("all", x.lay(sort, sort), 3);
            findings(x, 0, 0, 0);
        }
    }

    private static void promise29WrongSheets() {
        FindingsWeb x = Check.web("node 2 9 9;node 3 9 9;told 1 2");
        Check.fill(x, 0, 0, 0, 0);
        Check.due("no SHEET", x.lay(4, 0), FindingsWeb.BAD);
        Check.due("no SHEET", x.lay(-1, 0), FindingsWeb.BAD);
        Check.due("no sort", x.lay(0, 3), FindingsWeb.BAD);
        Check.due("no sort", x.lay(0, -1), FindingsWeb.BAD);
        Check.due("no sort, of a missing one", x.lay(1, -1), FindingsWeb.BAD);
        for (int sort = 0; sort < 3; sort++) Check.due("missing", x.lay(1, sort), -11);
        Check.due("of another sort", x.lay(0, 1), -13);
        Check.due("of another sort", x.lay(0, 2), -13);
        long[][] wrong = {{}, {0}, {0, 0, 0}, {2, 0}, {0, 3}, {-2, 0}, {0, 1L << 32}};
        for (long[] items : wrong) {
            Check.fill(x, 0, 0, items);
            Check.due("a wrong SHEET", x.lay(0, 0), FindingsWeb.STATE);
            Check.due("of another sort, named first", x.lay(0, 1), -13);
            findings(x, -1, 2);
        }
    }

    private static void promise30And31Image() {
        FindingsWeb x = Check.web("node 2 9 9;node 3 0 9;sum 2 1 0;row 1 1 1 2 9;told 0 1");
        Check.due("none yet", x.back(), FindingsWeb.STATE);
        Check.due("kept", x.image(), 3);
        x.told(0, 0);
        x.told(2, 1);
        x.done(1, 2);
        x.hint(1, 0, 1, 2);
        x.row(1, 1, 12, 0, 0);
        x.node(3, 1, 2, 1);
        x.told(3, 2);
        x.done(3, 1);
        x.hint(3, 0, 3, 3);
        for (int again = 0; again < 2; again++) {
            Check.due("back", x.back(), 3);
            Check.due("no fourth", x.of(3, 0), FindingsWeb.BAD);
            findings(x, 1, -1, -1);
            Check.due("done", x.of(1, 5), FindingsWeb.NONE);
            Check.due("hint", x.of(1, 6), 0);
            Check.due("row", x.cell(1, 1, 2), 9);
            Check.that("as it was", Check.line(x, 2).equals("2/2 sum <1,0"));
            Check.due("what comes then is new", x.node(2, 0, -1, -1), 3);
            Check.that("with nothing told", Check.line(x, 3).equals("3/2"));
            Check.due("it counts 1 each", x.odds(3, 1, 0) * 10 + x.odds(3, 1, 1), 12);
            Check.due("a TABLE", x.cell(3, 0, 1), 6);
        }
        Check.due("kept anew", x.image(), 4);
        x.told(3, 1);
        Check.due("back to that", x.back(), 4);
        findings(x, 1, -1, -1, -1);
        FindingsWeb none = new FindingsWeb();
        Check.due("of no NODES", none.image(), 0);
        none.node(2, 0, -1, -1);
        Check.due("back to none", none.back(), 0);
        Check.due("none", none.count(0), 0);
    }

    private static void promise31NothingElse() {
        FindingsWeb x = Check.web("node 2 9 9");
        Check.fill(x, 1, 1, 5);
        x.image();
        x.put(1, 0, 6);
        x.feed('a');
        x.back();
        Check.due("SHEETS aren't in it", x.item(1, 0), 6);
        Check.due("THE TAPE isn't", x.count(4), 1);
    }

    private static void promise32Count() {
        FindingsWeb x = Check.web("node 3 9 9;node 2 9 9;node 3 0 1;node 2 9 9;most 2 3 9");
        int[] first = {5, 0, 0, 0, 0, 4, 72};
        for (int what = 0; what < 7; what++) Check.due("count " + what, x.count(what), first[what]);
        x.told(0, 0);
        x.told(4, 0);
        x.done(2, 0);
        x.hint(0, 1, 1, 2);
        x.hint(1, 1, 2, 0);
        x.hint(2, 1, 2, 0);
        x.hint(3, 4, 4, 0);
        x.feed(1);
        x.feed(1);
        int[] then = {5, 2, 1, 3, 2, 1, 72};
        for (int what = 0; what < 7; what++) Check.due("count " + what, x.count(what), then[what]);
        x.done(0, 0);
        x.done(4, 0);
        Check.due("DONE", x.count(2), 3);
        Check.due("NEAR", x.count(5), 0);
        Check.due("what", x.count(7), FindingsWeb.BAD);
        Check.due("what", x.count(-1), FindingsWeb.BAD);
    }
}
