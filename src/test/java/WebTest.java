/** Promises 1 to 6 and 9 to 11: what a web is made of, and what is told of it. */
public final class WebTest {
    public static void main(String[] args) {
        promise1NewObject();
        promise2Node();
        promise2FirstNumbers();
        promise2Kinds();
        promise2KindsOfOneParent();
        promise3Row();
        promise3CasesOfParents();
        promise4Told();
        promise5Done();
        promise6Hint();
        promise9Of();
        promise10Cell();
        promise11Print();
        promise11PrintOfAll();
        Check.end("WebTest");
    }

    private static void promise1NewObject() {
        FindingsWeb x = new FindingsWeb();
        for (int what = 0; what < 6; what++) Check.due("count " + what, x.count(what), 0);
        Check.due("one WORLD, of no NODES", x.count(6), 1);
        Check.due("weight", x.weight(), 1);
        Check.due("of", x.of(0, 0), FindingsWeb.BAD);
        Check.due("back", x.back(), FindingsWeb.STATE);
        Check.due("text", x.text(), -100);
        for (int sheet = 0; sheet < 4; sheet++) Check.due("put", x.put(sheet, 0, 0), -11);
    }

    private static void promise2Node() {
        FindingsWeb x = new FindingsWeb();
        Check.due("first", x.node(2, 0, -1, -1), 0);
        Check.due("second", x.node(3, 0, -1, -1), 1);
        Check.due("with p", x.node(2, 3, 1, -1), 2);
        Check.due("with p above q", x.node(3, 1, 2, 0), 3);
        int[][] bad = {
            {1, 0, -1, -1}, {4, 0, -1, -1}, {0, 0, -1, -1}, {-1, 0, 0, -1}, {2, -1, 0, 1}, {2, 4, 0, 1},
            {2, 0, 4, -1}, {2, 0, -2, -1}, {2, 0, 0, 4}, {2, 0, 0, -2}, {2, 0, 0, 0}, {2, 0, -1, 0},
            {2, 1, -1, -1}, {2, 2, -1, -1}, {2, 3, -1, -1}, {2, 1, -1, 0}, {2, 0, Integer.MAX_VALUE, -1},
            {2, 0, 9, -1}, {2, 0, Integer.MIN_VALUE, -1}};
        for (int[] b : bad) Check.due("none such", x.node(b[0], b[1], b[2], b[3]), FindingsWeb.BAD);
        Check.due("a refusal changes nothing", x.count(0), 4);
        for (int i = 4; i < 7; i++) Check.due("more", x.node(2, 0, i - 1, -1), i);
        Check.due("an eighth", x.node(2, 0, -1, -1), FindingsWeb.FULL);
        Check.due("an eighth with the last as p", x.node(2, 2, 6, 0), FindingsWeb.FULL);
        Check.due("BAD is named first", x.node(2, 0, 7, -1), FindingsWeb.BAD);
        Check.due("seven", x.count(0), 7);
    }

    private static void promise2FirstNumbers() {
        FindingsWeb x = Check.web("node 2 9 9; node 3 0 9; node 2 1 0; node 3 1 2");
        int[] rows = {1, 2, 6, 6};
        for (int node = 0; node < 4; node++) {
            int size = x.of(node, 0);
            Check.due("rows", x.of(node, 7), rows[node]);
            for (int row = 0; row < rows[node]; row++) {
                for (int v = 0; v < size; v++) Check.due("at first", x.cell(node, row, v), 12 / size);
            }
        }
        for (int node = 0; node < 4; node++) {
            for (int what = 4; what < 6; what++) Check.due("at first", x.of(node, what), FindingsWeb.NONE);
            Check.due("not HINTED at first", x.of(node, 6), 0);
        }
        Check.due("all HINTS 1", x.weight(), 12 * 12 * 12 * 12);
    }

    /** What MOST, LEAST and SUM have of two PARENTS, of both SIZES and all values. */
    private static void promise2Kinds() {
        for (int size = 2; size <= 3; size++) {
            FindingsWeb x = Check.web("node 3 9 9; node 3 9 9");
            for (int kind = 1; kind <= 3; kind++) x.node(size, kind, 1, 0);
            for (int a = 0; a < 3; a++) {
                for (int b = 0; b < 3; b++) {
                    x.told(0, a);
                    x.told(1, b);
                    int most = Math.min(a > b ? a : b, size - 1);
                    int least = Math.min(a > b ? b : a, size - 1);
                    String what = "of " + a + " and " + b;
                    Check.fraction("most " + what, x.odds(2, most, 0), x.odds(2, most, 1), 1, 1);
                    Check.fraction("least " + what, x.odds(3, least, 0), x.odds(3, least, 1), 1, 1);
                    Check.fraction("sum " + what, x.odds(4, (a + b) % size, 0), x.odds(4, (a + b) % size, 1), 1, 1);
                    Check.due("weight " + what, x.weight(), 4 * 4 * 12 * 12 * 12);
                }
            }
        }
    }

    private static void promise2KindsOfOneParent() {
        for (int size = 2; size <= 3; size++) {
            FindingsWeb x = Check.web("node 3 9 9");
            for (int kind = 1; kind <= 3; kind++) x.node(size, kind, 0, -1);
            for (int a = 0; a < 3; a++) {
                x.told(0, a);
                int held = Math.min(a, size - 1);
                Check.due("most of one", x.odds(1, held, 1) - x.odds(1, held, 0), 0);
                Check.due("least of one", x.odds(2, held, 1) - x.odds(2, held, 0), 0);
                Check.due("sum of one", x.odds(3, a % size, 1) - x.odds(3, a % size, 0), 0);
            }
        }
    }

    private static void promise3Row() {
        FindingsWeb x = Check.web("node 2 9 9; node 3 0 9; most 2 1 9");
        Check.due("of two", x.row(0, 0, 12, 0, 0), 1);
        Check.due("of two", x.row(0, 0, 5, 7, 0), 1);
        Check.due("of three", x.row(1, 1, 1, 2, 9), 1);
        Check.due("all in the last", x.row(1, 0, 0, 0, 12), 1);
        int[][] bad = {
            {3, 0, 6, 6, 0}, {-1, 0, 6, 6, 0}, {0, 0, 6, 5, 1}, {0, 0, 6, 5, 0}, {0, 0, 6, 7, 0}, {0, 0, 13, -1, 0},
            {0, 0, -1, 13, 0}, {0, 0, 6, 7, -1}, {1, 0, 4, 4, 3}, {1, 0, 4, 4, 5}, {1, 0, 13, -1, 0}, {1, 0, -1, 1, 12},
            {1, 0, 6, 7, -1}, {1, 0, Integer.MAX_VALUE, Integer.MAX_VALUE, 14}, {7, 0, 6, 6, 0}};
        for (int[] b : bad) Check.due("none such", x.row(b[0], b[1], b[2], b[3], b[4]), FindingsWeb.BAD);
        Check.due("a MOST", x.row(2, 0, 6, 6, 0), -13);
        Check.due("a MOST, before all else", x.row(2, 9, 6, 5, 0), -13);
        Check.due("no such ROW", x.row(0, 1, 6, 6, 0), -12);
        Check.due("no such ROW", x.row(1, 2, 4, 4, 4), -12);
        Check.due("no such ROW, before the numbers", x.row(1, -1, 4, 4, 5), -12);
        int[][] cells = {{0, 0, 5, 7, 0}, {1, 0, 0, 0, 12}, {1, 1, 1, 2, 9}};
        for (int[] c : cells) {
            for (int v = 0; v < x.of(c[0], 0); v++) Check.due("kept", x.cell(c[0], c[1], v), c[2 + v]);
        }
    }

    /** p's value times q's SIZE, and q's value; the PARENTS' numbers don't matter. */
    private static void promise3CasesOfParents() {
        FindingsWeb x = Check.web("node 3 9 9; node 2 9 9; node 3 0 1; node 3 1 0");
        for (int row = 0; row < 6; row++) {
            x.row(2, row, row, 12 - row, 0);
            x.row(3, row, row, 0, 12 - row);
        }
        for (int a = 0; a < 3; a++) {
            for (int b = 0; b < 2; b++) {
                x.told(0, a);
                x.told(1, b);
                Check.due("twelfths, p 0, q 1", x.odds(2, 0, 0) * 12 / x.odds(2, 0, 1), a * 2 + b);
                Check.due("twelfths, p 1, q 0", x.odds(3, 0, 0) * 12 / x.odds(3, 0, 1), b * 3 + a);
            }
        }
    }

    private static void promise4Told() {
        FindingsWeb x = Check.web("node 2 9 9; node 3 9 9");
        Check.due("had none", x.told(1, 2), FindingsWeb.NONE);
        Check.due("had one", x.told(1, 0), 2);
        Check.due("had one", x.told(1, -1), 0);
        Check.due("had none", x.told(1, -1), FindingsWeb.NONE);
        Check.due("of the other", x.told(0, 1), FindingsWeb.NONE);
        Check.due("no value", x.told(0, 2), FindingsWeb.BAD);
        Check.due("no value", x.told(1, 3), FindingsWeb.BAD);
        Check.due("no value", x.told(1, -2), FindingsWeb.BAD);
        Check.due("no NODE", x.told(2, 0), FindingsWeb.BAD);
        Check.due("no NODE", x.told(-1, 0), FindingsWeb.BAD);
        Check.due("kept", x.of(0, 4), 1);
        Check.due("one of two", x.weight(), 6 * 12);
    }

    private static void promise5Done() {
        FindingsWeb x = Check.web("node 2 9 9; node 3 0 9; row 0 0 2 10 0");
        Check.due("wasn't", x.done(1, 2), FindingsWeb.NONE);
        Check.due("was", x.done(1, 0), 2);
        Check.fraction("is", x.odds(1, 0, 0), x.odds(1, 0, 1), 1, 1);
        Check.fraction("isn't", x.odds(1, 1, 0), x.odds(1, 1, 1), 0, 1);
        Check.due("all twelfths", x.weight(), 144);
        Check.due("with a FINDING", x.told(1, 1), FindingsWeb.NONE);
        Check.due("a FINDING that is another one", x.weight(), 0);
        x.told(1, 0);
        Check.due("a FINDING that is the same", x.weight(), 144);
        x.hint(1, 7, 1, 1);
        Check.due("its HINT counts", x.weight(), 7 * 144);
        Check.due("no more", x.done(1, -1), 0);
        Check.due("wasn't", x.done(1, -1), FindingsWeb.NONE);
        Check.due("no value", x.done(0, 2), FindingsWeb.BAD);
        Check.due("no value", x.done(1, 3), FindingsWeb.BAD);
        Check.due("no value", x.done(1, -2), FindingsWeb.BAD);
        Check.due("no NODE", x.done(2, 0), FindingsWeb.BAD);
        Check.due("no NODE", x.done(-1, 0), FindingsWeb.BAD);
    }

    private static void promise6Hint() {
        FindingsWeb x = Check.web("node 2 9 9; node 3 9 9");
        Check.due("wasn't", x.hint(0, 0, 9, 0), 0);
        Check.due("all in the second", x.weight(), 9 * 6 * 12);
        Check.due("was", x.hint(0, 5, 5, 7), 1);
        Check.due("two the same, whatever the third is", x.of(0, 6), 0);
        Check.due("counts though", x.weight(), 5 * 12 * 12);
        Check.due("wasn't", x.hint(0, 1, 1, 1), 0);
        Check.due("of three", x.hint(1, 3, 3, 4), 0);
        Check.due("the third alone", x.of(1, 6), 1);
        Check.due("was", x.hint(1, 4, 3, 3), 1);
        Check.due("was", x.hint(1, 3, 4, 3), 1);
        Check.due("was", x.hint(1, 2, 2, 2), 1);
        Check.due("isn't", x.of(1, 6), 0);
        int[][] bad = {{0, 10, 1, 1}, {0, 1, 10, 1}, {0, 1, 1, 10}, {0, -1, 1, 1}, {0, 1, -1, 1}, {0, 1, 1, -1},
            {1, 1, 1, 10}, {2, 1, 1, 1}, {-1, 1, 1, 1}};
        for (int[] b : bad) Check.due("none such", x.hint(b[0], b[1], b[2], b[3]), FindingsWeb.BAD);
        Check.due("kept", x.weight(), 12 * 24);
    }

    private static void promise9Of() {
        FindingsWeb x = Check.web("node 2 9 9; node 3 0 9; least 3 1 0; node 2 2 1");
        int[][] all = {{2, 0, -1, -1, -1, -1, 0, 1}, {3, 0, 0, -1, 2, -1, 0, 2}, {3, 2, 1, 0, -1, 1, 0, 0},
            {2, 0, 2, 1, -1, -1, 1, 9}};
        x.told(1, 2);
        x.done(2, 1);
        x.hint(3, 4, 0, 0);
        for (int node = 0; node < 4; node++) {
            for (int what = 0; what < 8; what++) Check.due("of " + node + " " + what, x.of(node, what), all[node][what]);
            Check.due("no such", x.of(node, 8), FindingsWeb.BAD);
            Check.due("no such", x.of(node, -1), FindingsWeb.BAD);
        }
        Check.due("no NODE", x.of(4, 0), FindingsWeb.BAD);
        Check.due("no NODE", x.of(-1, 0), FindingsWeb.BAD);
    }

    private static void promise10Cell() {
        FindingsWeb x = Check.web("node 2 9 9; node 3 0 9; sum 3 0 1; row 1 1 1 2 9");
        for (int v = 0; v < 3; v++) Check.due("set", x.cell(1, 1, v), new int[] {1, 2, 9}[v]);
        Check.due("at first", x.cell(1, 0, 2), 4);
        Check.due("no NODE", x.cell(3, 0, 0), FindingsWeb.BAD);
        Check.due("no NODE", x.cell(-1, 0, 0), FindingsWeb.BAD);
        Check.due("a SUM", x.cell(2, 0, 0), -13);
        Check.due("a SUM, before all else", x.cell(2, 9, 9), -13);
        Check.due("no ROW", x.cell(1, 2, 0), -12);
        Check.due("no ROW, before the value", x.cell(1, -1, 3), -12);
        Check.due("no value", x.cell(1, 1, 3), FindingsWeb.BAD);
        Check.due("no value of two", x.cell(0, 0, 2), FindingsWeb.BAD);
        Check.due("no value", x.cell(1, 1, -1), FindingsWeb.BAD);
    }

    private static void line(FindingsWeb x, int node, String want) {
        String got = Check.line(x, node);
        Check.that("\"" + got + "\", due is \"" + want + "\"", got.equals(want));
    }

    private static void promise11Print() {
        FindingsWeb x = Check.web("node 3 9 9; most 2 0 9; least 3 1 0; sum 2 0 2; node 2 3 9");
        line(x, 0, "0/3");
        line(x, 1, "1/2 most <0");
        line(x, 2, "2/3 least <1,0");
        line(x, 3, "3/2 sum <0,2");
        line(x, 4, "4/2 <3");
        Check.due("how many", x.print(0, -1), 3);
        Check.due("the last", x.print(0, 2), '3');
        Check.due("behind the last", x.print(0, 3), FindingsWeb.NONE);
        Check.due("far behind", x.print(0, Integer.MAX_VALUE), FindingsWeb.NONE);
        Check.due("ahead", x.print(0, -2), FindingsWeb.NONE);
        Check.due("no NODE", x.print(5, 0), FindingsWeb.BAD);
        Check.due("no NODE", x.print(-1, -1), FindingsWeb.BAD);
    }

    private static void promise11PrintOfAll() {
        FindingsWeb x = Check.web("node 3 9 9; least 2 0 9; told 1 1; done 1 0");
        x.hint(1, 9, 0, 4);
        x.hint(0, 1, 1, 2);
        line(x, 1, "1/2 least <0 told=1 done=0 hint 9:0");
        line(x, 0, "0/3 hint 1:1:2");
        x.told(0, 2);
        x.hint(0, 3, 3, 3);
        line(x, 0, "0/3 told=2");
        x.told(0, -1);
        x.done(0, 0);
        line(x, 0, "0/3 done=0");
    }
}
