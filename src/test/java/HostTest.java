/** Promises 33 to 36: SHEETS. */
public final class HostTest {
    public static void main(String[] args) {
        promise33Sheet();
        promise34Put();
        promise35Item();
        promise36Copy();
        promise36Overlap();
        promise36WrongNumbers();
        Check.end("HostTest");
    }

    private static void promise33Sheet() {
        FindingsWeb x = new FindingsWeb();
        for (int sheet = 0; sheet < 4; sheet++) {
            for (int sort = 0; sort < 3; sort++) {
                Check.due("a row of " + sort, x.sheet(sheet, sort, 40), 1);
                Check.due("its last", x.put(sheet, 39, -1), 1);
                Check.due("no more", x.put(sheet, 40, -1), -12);
                Check.due("anew", x.sheet(sheet, sort, 40), 1);
                for (int i = 0; i < 40; i++) Check.due("all 0", x.item(sheet, i), 0);
                Check.due("of nothing", x.sheet(sheet, sort, 0), 1);
                Check.due("no item", x.put(sheet, 0, 1), -12);
            }
        }
        Check.due("missing", x.sheet(0, -1, -5), 1);
        Check.due("is missing", x.put(0, 0, 1), -11);
        Check.due("missing", x.sheet(1, -1, 41), 1);
        Check.due("is missing", x.put(1, 0, 1), -11);
        int[][] bad = {{4, 0, 1}, {-1, 0, 1}, {0, 3, 1}, {0, -2, 1}, {0, 0, 41}, {0, 2, Integer.MAX_VALUE}, {4, -1, 0},
            {4, 0, -1}, {0, 3, -1}};
        for (int[] b : bad) Check.due("sheet", x.sheet(b[0], b[1], b[2]), FindingsWeb.BAD);
        Check.due("below 0", x.sheet(2, 0, -1), -14);
        Check.due("below 0", x.sheet(2, 2, Integer.MIN_VALUE), -14);
        Check.due("as it was", x.put(2, 0, 1), -12);
        Check.due("missing as it was", x.put(0, 0, 1), -11);
    }

    private static void promise34Put() {
        FindingsWeb x = new FindingsWeb();
        for (int sort = 0; sort < 3; sort++) x.sheet(sort, sort, 3);
        long[] values = {0, -1, 127, 128, 255, 256, -129, 1L << 31, (1L << 31) - 1, (1L << 32) + 5, Long.MAX_VALUE, Long.MIN_VALUE};
        for (long v : values) {
            for (int sort = 0; sort < 3; sort++) Check.due("put", x.put(sort, 1, v), 1);
            Check.due("a long", x.item(0, 1), v);
            Check.due("an int", x.item(1, 1), (int) v);
            Check.due("a byte", x.item(2, 1), (byte) v);
        }
        for (int i = 0; i < 3; i += 2) Check.due("the others", x.item(0, i), 0);
        Check.due("no SHEET", x.put(4, 0, 1), FindingsWeb.BAD);
        Check.due("no SHEET", x.put(-1, 0, 1), FindingsWeb.BAD);
        Check.due("missing", x.put(3, 0, 1), -11);
        Check.due("missing, before its place", x.put(3, 99, 1), -11);
        Check.due("outside", x.put(0, 3, 1), -12);
        Check.due("outside", x.put(0, -1, 1), -12);
    }

    private static void promise35Item() {
        FindingsWeb x = new FindingsWeb();
        Check.fill(x, 0, 0, 5, FindingsWeb.NO, -7);
        Check.due("first", x.item(0, 0), 5);
        Check.due("last", x.item(0, 2), -7);
        int[][] none = {{0, 3}, {0, -1}, {1, 0}, {4, 0}, {-1, 0}, {0, Integer.MAX_VALUE}};
        for (int[] n : none) Check.due("item", x.item(n[0], n[1]), FindingsWeb.NO);
        x.sheet(0, -1, 3);
        Check.due("missing", x.item(0, 0), FindingsWeb.NO);
    }

    private static void items(FindingsWeb x, int sheet, long... want) {
        for (int i = 0; i < want.length; i++) Check.due("item " + i, x.item(sheet, i), want[i]);
        Check.due("no more", x.item(sheet, want.length), FindingsWeb.NO);
    }

    private static void promise36Copy() {
        for (int sort = 0; sort < 3; sort++) {
            FindingsWeb x = new FindingsWeb();
            Check.fill(x, 0, sort, 1, 2, 3, 4);
            Check.fill(x, 1, sort, -1, -2, -3);
            Check.due("two", x.copy(0, 1, 1, 0, 2), 2);
            items(x, 1, 2, 3, -3);
            items(x, 0, 1, 2, 3, 4);
            Check.due("to the last", x.copy(0, 3, 1, 2, 1), 1);
            items(x, 1, 2, 3, 4);
            Check.due("all", x.copy(1, 0, 0, 1, 3), 3);
            items(x, 0, 1, 2, 3, 4);
            Check.due("nothing", x.copy(0, 0, 1, 0, 0), 0);
            Check.due("nothing, at the ends", x.copy(0, 4, 1, 3, 0), 0);
            items(x, 1, 2, 3, 4);
        }
    }

    private static void promise36Overlap() {
        FindingsWeb x = new FindingsWeb();
        Check.fill(x, 2, 1, 1, 2, 3, 4, 5);
        Check.due("up, as they were", x.copy(2, 0, 2, 1, 4), 4);
        items(x, 2, 1, 1, 2, 3, 4);
        Check.due("down, as they were", x.copy(2, 2, 2, 0, 3), 3);
        items(x, 2, 2, 3, 4, 3, 4);
    }

    private static void promise36WrongNumbers() {
        FindingsWeb x = new FindingsWeb();
        Check.fill(x, 0, 0, 1, 2, 3);
        Check.fill(x, 1, 0, 4, 5, 6, 7);
        Check.fill(x, 2, 1, 8);
        int great = Integer.MAX_VALUE;
        int[][] wrong = {
            {4, 0, 0, 0, 1, -2}, {0, 0, 4, 0, 1, -2}, {-1, 0, 0, 0, 1, -2}, {0, 0, -1, 0, 1, -2}, {3, 0, 4, 0, 1, -2},
            {0, 0, 3, 0, 1, -11}, {3, 0, 0, 0, 1, -11}, {3, 9, 3, 0, 1, -11}, {2, 0, 3, 0, -1, -11},
            {0, 0, 2, 0, 1, -13}, {2, 0, 0, 0, 1, -13}, {2, 9, 0, 0, -1, -13},
            {0, 0, 1, 0, -1, -12}, {0, 0, 1, 0, 4, -12}, {0, 3, 1, 0, 1, -12}, {0, -1, 1, 0, 1, -12}, {0, 0, 1, -1, 1, -12},
            {0, 0, 1, 4, 1, -12}, {0, 0, 1, 2, 3, -12}, {0, 4, 1, 0, 0, -12}, {0, 0, 1, 5, 0, -12}, {0, 1, 1, 0, great, -12},
            {0, great, 1, 0, 2, -12}, {0, 0, 1, great, 2, -12}, {0, great, 1, great, great, -12}};
        for (int[] w : wrong) Check.due("copy", x.copy(w[0], w[1], w[2], w[3], w[4]), w[5]);
        items(x, 0, 1, 2, 3);
        items(x, 1, 4, 5, 6, 7);
        items(x, 2, 8);
    }
}
