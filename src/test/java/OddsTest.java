/** Promises 12 to 19: WEIGHTS, ODDS and the LIKELIEST. */
public final class OddsTest {
    public static void main(String[] args) {
        promise12Weight();
        promise13Power();
        promise14Odds();
        promise15Both();
        promise16Shown();
        promise16WrongSheets();
        promise17Would();
        promise17And18OfThree();
        promise18Without();
        promise18Hints();
        promise19Likely();
        promise19Ties();
        promise19FactorsOfOne();
        Check.end("OddsTest");
    }

    /** WEIGHTS: (0, 0) 36, (0, 1) 0, (1, 0) 36, (1, 1) 72; together 144. */
    private static FindingsWeb two() {
        return Check.web("node 2 9 9;node 2 0 9", "row 0 0 3 9 0;row 1 0 12 0 0;row 1 1 4 8 0");
    }

    private static FindingsWeb weightless() {
        FindingsWeb x = two();
        x.hint(0, 0, 0, 0);
        return x;
    }

    private static void odds(FindingsWeb x, int node, int v, long above, long below) {
        Check.fraction("odds " + node + " " + v, x.odds(node, v, 0), x.odds(node, v, 1), above, below);
    }

    private static void promise12Weight() {
        FindingsWeb x = two();
        Check.due("all", x.weight(), 144);
        x.hint(1, 1, 3, 0);
        Check.due("HINTED", x.weight(), 288);
        x.told(0, 1);
        Check.due("with a FINDING", x.weight(), 252);
        x.done(1, 1);
        Check.due("DONE", x.weight(), 9 * 12 * 3);
        x.told(1, 0);
        Check.due("DONE against a FINDING", x.weight(), 0);
        FindingsWeb all = new FindingsWeb();
        long weight = 1;
        for (int i = 0; i < 7; i++) {
            all.node(3, 0, -1, -1);
            all.hint(i, 9, 9, 9);
            weight *= 108;
        }
        Check.due("the greatest", all.weight(), weight);
        odds(all, 6, 2, 1, 3);
    }

    private static void promise13Power() {
        FindingsWeb x = two();
        long made = 1;
        for (int n = 0; n <= 8; n++) {
            Check.due("power " + n, x.power(n), made);
            made *= 144;
        }
        Check.due("above all longs", x.power(9), FindingsWeb.NO);
        Check.due("n", x.power(10), FindingsWeb.NO);
        Check.due("n", x.power(-1), FindingsWeb.NO);
        FindingsWeb y = Check.web("node 2 9 9;node 2 9 9", "row 0 0 4 8 0;hint 0 4 0 0;row 1 0 8 4 0;hint 1 1 0 0");
        Check.due("2 to the 7th", y.weight(), 128);
        Check.due("2 to the 56th", y.power(8), 1L << 56);
        Check.due("2 to the 63rd is no long", y.power(9), FindingsWeb.NO);
        y.row(1, 0, 9, 3, 0);
        y.hint(1, 0, 2, 0);
        y.hint(0, 1, 0, 0);
        Check.due("24", y.weight(), 24);
        Check.due("24 to the 9th", y.power(9), 2641807540224L);
        y.hint(0, 0, 0, 0);
        Check.due("nothing to the 0th", y.power(0), 1);
        Check.due("nothing to the first", y.power(1), 0);
        Check.due("nothing to the 9th", y.power(9), 0);
    }

    private static void promise14Odds() {
        FindingsWeb x = two();
        odds(x, 0, 0, 1, 4);
        odds(x, 0, 1, 3, 4);
        odds(x, 1, 0, 1, 2);
        x.told(1, 0);
        odds(x, 0, 0, 1, 2);
        odds(x, 1, 0, 1, 1);
        odds(x, 1, 1, 0, 1);
        int[][] none = {{2, 0, 0}, {-1, 0, 0}, {0, 2, 0}, {0, -1, 0}, {0, 0, 2}, {0, 0, -1}};
        FindingsWeb y = weightless();
        for (int[] n : none) {
            Check.due("a number", x.odds(n[0], n[1], n[2]), FindingsWeb.NO);
            Check.due("a number, named first", y.odds(n[0], n[1], n[2]), FindingsWeb.NO);
        }
        for (int line = 0; line < 2; line++) Check.due("no WEIGHT", y.odds(0, 0, line), FindingsWeb.STATE);
    }

    private static void promise15Both() {
        FindingsWeb x = two();
        int[][] all = {{0, 0, 1, 4}, {0, 1, 0, 1}, {1, 0, 1, 4}, {1, 1, 1, 2}};
        for (int[] a : all) {
            Check.fraction("both", x.both(0, a[0], 1, a[1], 0), x.both(0, a[0], 1, a[1], 1), a[2], a[3]);
            Check.fraction("turned", x.both(1, a[1], 0, a[0], 0), x.both(1, a[1], 0, a[0], 1), a[2], a[3]);
        }
        Check.fraction("one twice", x.both(0, 1, 0, 1, 0), x.both(0, 1, 0, 1, 1), 3, 4);
        Check.fraction("one, two values", x.both(0, 1, 0, 0, 0), x.both(0, 1, 0, 0, 1), 0, 1);
        int[][] none = {{2, 0, 1, 0, 0}, {0, 2, 1, 0, 0}, {0, 0, 2, 0, 0}, {0, 0, 1, 2, 0}, {0, 0, 1, 0, 2},
            {-1, 0, 1, 0, 0}, {0, -1, 1, 0, 0}, {0, 0, -1, 0, 0}, {0, 0, 1, -1, 0}, {0, 0, 1, 0, -1}};
        FindingsWeb y = weightless();
        for (int[] n : none) {
            Check.due("a number", x.both(n[0], n[1], n[2], n[3], n[4]), FindingsWeb.NO);
            Check.due("a number, named first", y.both(n[0], n[1], n[2], n[3], n[4]), FindingsWeb.NO);
        }
        Check.due("no WEIGHT", y.both(0, 0, 1, 0, 1), FindingsWeb.STATE);
        Check.due("no WEIGHT, two values of one", y.both(0, 0, 0, 1, 0), FindingsWeb.STATE);
    }

    private static void shown(FindingsWeb x, long a, long b, long above, long below) {
        for (int sort = 0; sort < 3; sort++) {
            Check.fill(x, sort, sort, a, b);
            Check.fraction("shown " + a + " " + b, x.shown(sort, 0), x.shown(sort, 1), above, below);
        }
    }

    private static void promise16Shown() {
        FindingsWeb x = two();
        shown(x, 0, 0, 1, 4);
        shown(x, 0, 1, 0, 1);
        shown(x, 1, 1, 1, 2);
        shown(x, -1, 0, 1, 2);
        shown(x, 1, -1, 3, 4);
        shown(x, -1, -1, 1, 1);
        x.told(1, 0);
        shown(x, 1, -1, 1, 2);
        FindingsWeb empty = new FindingsWeb();
        empty.sheet(3, 2, 0);
        Check.fraction("of no NODES", empty.shown(3, 0), empty.shown(3, 1), 1, 1);
        FindingsWeb y = weightless();
        Check.fill(y, 0, 0, 0, 0);
        for (int line = 0; line < 2; line++) Check.due("no WEIGHT", y.shown(0, line), FindingsWeb.STATE);
        Check.due("line, named first", y.shown(0, 2), FindingsWeb.NO);
    }

    private static void promise16WrongSheets() {
        FindingsWeb x = two();
        Check.fill(x, 0, 0, 0, 0);
        Check.due("no SHEET", x.shown(4, 0), FindingsWeb.NO);
        Check.due("no SHEET", x.shown(-1, 0), FindingsWeb.NO);
        Check.due("line", x.shown(0, 2), FindingsWeb.NO);
        Check.due("line", x.shown(0, -1), FindingsWeb.NO);
        Check.due("missing", x.shown(1, 0), FindingsWeb.NO);
        long[][] wrong = {{}, {0}, {0, 0, 0}, {0, 2}, {2, 0}, {0, -2}, {1L << 32, 0}, {0, (1L << 32) - 1}, {0, FindingsWeb.NO}};
        for (long[] items : wrong) {
            Check.fill(x, 0, 0, items);
            Check.due("a wrong SHEET", x.shown(0, 0), FindingsWeb.NO);
        }
        x.sheet(0, -1, 2);
        Check.due("missing again", x.shown(0, 0), FindingsWeb.NO);
    }

    private static void would(FindingsWeb x, int other, int w, int node, int v, long above, long below) {
        Check.fraction("would", x.would(other, w, node, v, 0), x.would(other, w, node, v, 1), above, below);
    }

    private static void promise17Would() {
        FindingsWeb x = two();
        would(x, 0, 0, 1, 0, 1, 1);
        would(x, 0, 1, 1, 0, 1, 3);
        would(x, 1, 0, 0, 0, 1, 4);
        would(x, 1, 0, 1, 0, 1, 1);
        would(x, 1, 0, 1, 1, 0, 1);
        x.told(1, 0);
        would(x, 1, 0, 0, 0, 1, 4);
        would(x, 0, 0, 0, 0, 1, 1);
        for (int line = 0; line < 2; line++) Check.due("no WEIGHT in thought", x.would(1, 1, 0, 0, line), FindingsWeb.STATE);
        Check.due("in thought alone", x.of(1, 5), FindingsWeb.NONE);
        x.done(1, 1);
        Check.due("no WEIGHT in truth", x.odds(0, 0, 0), FindingsWeb.STATE);
        would(x, 1, 0, 0, 0, 1, 4);
        Check.due("in thought alone", x.of(1, 5), 1);
        int[][] none = {{2, 0, 1, 0, 0}, {0, 2, 1, 0, 0}, {0, -1, 1, 0, 0}, {0, 0, 2, 0, 0}, {0, 0, 1, 2, 0},
            {0, 0, 1, -1, 0}, {0, 0, 1, 0, 2}, {0, 0, 1, 0, -1}, {-1, 0, 1, 0, 0}, {0, 0, -1, 0, 0}};
        for (int[] n : none) Check.due("a number", x.would(n[0], n[1], n[2], n[3], n[4]), FindingsWeb.NO);
    }

    private static void without(FindingsWeb x, int other, int node, int v, long above, long below) {
        Check.fraction("without", x.without(other, node, v, 0), x.without(other, node, v, 1), above, below);
    }

    private static void promise18Without() {
        FindingsWeb x = two();
        without(x, 0, 1, 0, 1, 2);
        x.told(1, 0);
        without(x, 1, 0, 0, 1, 4);
        without(x, 1, 1, 0, 1, 2);
        without(x, 0, 0, 0, 1, 2);
        Check.due("in thought alone", x.of(1, 4), 0);
        x.told(0, 0);
        x.told(1, 1);
        Check.due("no WEIGHT in truth", x.odds(0, 0, 0), FindingsWeb.STATE);
        without(x, 0, 0, 0, 0, 1);
        without(x, 1, 1, 0, 1, 1);
        x.done(1, 0);
        for (int line = 0; line < 2; line++) Check.due("no WEIGHT in thought", x.without(0, 0, 0, line), FindingsWeb.STATE);
        without(x, 1, 1, 0, 1, 1);
        int[][] none = {{2, 1, 0, 0}, {-1, 1, 0, 0}, {0, 2, 0, 0}, {0, -1, 0, 0}, {0, 1, 2, 0}, {0, 1, -1, 0}, {0, 1, 0, 2}, {0, 1, 0, -1}};
        for (int[] n : none) Check.due("a number", x.without(n[0], n[1], n[2], n[3]), FindingsWeb.NO);
    }

    /** NODES of three values, with two PARENTS, in thought as in truth. */
    private static void promise17And18OfThree() {
        FindingsWeb x = Check.web("node 3 9 9;node 3 9 9;node 3 0 1;sum 3 2 0");
        for (int row = 0; row < 9; row++) x.row(2, row, row, 0, 12 - row);
        x.told(0, 1);
        x.told(1, 1);
        would(x, 3, 2, 2, 0, 1, 3);
        would(x, 2, 2, 3, 0, 1, 1);
        x.told(1, 2);
        would(x, 3, 2, 2, 0, 5, 12);
        would(x, 3, 1, 2, 0, 5, 12);
        without(x, 0, 2, 0, 5, 12);
        without(x, 1, 2, 0, 1, 3);
        x.told(1, -1);
        x.hint(1, 1, 1, 4);
        without(x, 0, 1, 2, 2, 3);
        without(x, 1, 1, 2, 1, 3);
        x.hint(1, 4, 1, 1);
        without(x, 1, 1, 2, 1, 3);
        without(x, 1, 1, 0, 1, 3);
        x.hint(1, 7, 7, 7);
        x.told(1, 0);
        without(x, 1, 1, 0, 1, 3);
    }

    private static void promise18Hints() {
        FindingsWeb x = two();
        x.hint(1, 1, 3, 0);
        odds(x, 0, 0, 1, 8);
        without(x, 1, 0, 0, 1, 4);
        without(x, 0, 0, 0, 1, 8);
        x.told(1, 1);
        without(x, 1, 0, 0, 1, 4);
        Check.that("in thought alone", Check.line(x, 1).equals("1/2 <0 told=1 hint 1:3"));
        x.told(1, -1);
        x.hint(1, 0, 0, 5);
        Check.due("not HINTED, so its numbers stay", x.without(1, 0, 0, 0), FindingsWeb.STATE);
    }

    private static void likely(FindingsWeb x, int... values) {
        for (int node = 0; node < values.length; node++) Check.due("likely " + node, x.likely(node), values[node]);
    }

    private static void promise19Likely() {
        FindingsWeb x = two();
        likely(x, 1, 1);
        x.hint(0, 9, 1, 0);
        likely(x, 0, 0);
        x.told(1, 1);
        likely(x, 1, 1);
        x.done(0, 0);
        Check.due("no WEIGHT", x.likely(0), FindingsWeb.STATE);
        Check.due("no NODE", x.likely(2), FindingsWeb.BAD);
        Check.due("no NODE", x.likely(-1), FindingsWeb.BAD);
        x.told(1, 0);
        likely(x, 0, 0);
    }

    /** A WORLD whose WEIGHT is 1. */
    private static void promise19FactorsOfOne() {
        FindingsWeb x = Check.web("node 2 9 9;node 2 0 9", "row 0 0 11 1 0;row 1 0 9 3 0;row 1 1 1 11 0;told 1 0");
        likely(x, 0, 0);
        x.told(0, 1);
        likely(x, 1, 0);
        Check.due("one twelfth of one twelfth", x.weight(), 1);
        Check.fraction("of a WEIGHT of 1", x.odds(0, 1, 0), x.odds(0, 1, 1), 1, 1);
        Check.fraction("of a WEIGHT of 1", x.tells(0, 1, 0), x.tells(0, 1, 1), 1, 1);
        x.told(0, -1);
        x.hint(0, 0, 1, 0);
        likely(x, 1, 0);
    }

    private static void promise19Ties() {
        FindingsWeb x = two();
        x.told(1, 0);
        likely(x, 0, 0);
        FindingsWeb y = Check.web("node 3 9 9;node 3 9 9;sum 3 0 1");
        likely(y, 0, 0, 0);
        y.told(2, 1);
        likely(y, 0, 1, 1);
        y.hint(0, 0, 1, 1);
        likely(y, 1, 0, 1);
        y.hint(1, 1, 2, 2);
        likely(y, 2, 2, 1);
        y.hint(0, 2, 1, 1);
        likely(y, 0, 1, 1);
    }
}
