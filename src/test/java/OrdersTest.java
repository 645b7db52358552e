/** Promises 23 to 25: in which order NODES leave, CLUSTERS, what an order costs. */
public final class OrdersTest {
    public static void main(String[] args) {
        promise23Leaves();
        promise23Done();
        promise24Cluster();
        promise24Ties();
        promise24Order();
        promise24Anew();
        promise24NothingInCommon();
        promise25Cost();
        promise25WrongSheets();
        Check.end("OrdersTest");
    }

    /** A ring 0 1 2 3 without a chord, and NODE 4 with the PARENTS 3 and 0. */
    private static FindingsWeb ring() {
        return Check.web("node 2 9 9;node 3 0 9;node 2 1 9;node 3 2 9;node 2 3 0");
    }

    private static void leaves(FindingsWeb x, int[][] want) {
        for (int k = 0; k < want.length; k++) {
            for (int what = 0; what < 4; what++) Check.due("leaves " + k + " " + what, x.leaves(k, what), want[k][what]);
        }
        Check.due("no more", x.leaves(want.length, 0), -12);
    }

    private static void promise23Leaves() {
        FindingsWeb x = ring();
        Check.due("pairs that are NEAR", x.count(5), 6);
        leaves(x, new int[][] {{4, 0, 2, 25}, {0, 1, 2, 11}, {1, 0, 2, 14}, {2, 0, 1, 12}, {3, 0, 0, 8}});
        Check.due("what", x.leaves(0, 4), FindingsWeb.BAD);
        Check.due("what", x.leaves(0, -1), FindingsWeb.BAD);
        Check.due("what, named first", x.leaves(5, 4), FindingsWeb.BAD);
        Check.due("k", x.leaves(-1, 0), -12);
        leaves(new FindingsWeb(), new int[0][]);
    }

    private static void promise23Done() {
        FindingsWeb x = ring();
        x.done(4, 0);
        Check.due("without 4's PARENTS", x.count(5), 3);
        leaves(x, new int[][] {{0, 0, 1, 3}, {1, 0, 1, 6}, {2, 0, 1, 12}, {3, 0, 0, 8}, {4, 0, 0, 16}});
        x.done(4, -1);
        x.done(2, 1);
        x.told(3, 0);
        Check.due("FINDINGS don't matter", x.count(5), 5);
        leaves(x, new int[][] {{1, 0, 1, 3}, {0, 0, 2, 25}, {2, 0, 1, 12}, {3, 0, 1, 24}, {4, 0, 0, 16}});
    }

    private static void clusters(FindingsWeb x, int[][] want) {
        for (int what = 0; what < 3; what++) Check.due("how many", x.cluster(-1, what), want.length);
        for (int k = 0; k < want.length; k++) {
            for (int what = 0; what < 3; what++) Check.due("cluster " + k + " " + what, x.cluster(k, what), want[k][what]);
        }
        Check.due("no more", x.cluster(want.length, 0), -12);
    }

    private static void promise24Cluster() {
        FindingsWeb x = ring();
        clusters(x, new int[][] {{25, -1, 0}, {11, 0, 9}, {14, 1, 10}});
        Check.due("what", x.cluster(0, 3), FindingsWeb.BAD);
        Check.due("what", x.cluster(0, -1), FindingsWeb.BAD);
        Check.due("what, named first", x.cluster(3, 3), FindingsWeb.BAD);
        Check.due("k", x.cluster(-2, 0), -12);
        clusters(new FindingsWeb(), new int[0][]);
    }

    /** A star: each of its CLUSTERS has NODE 0 in common with each other one. */
    private static void promise24Ties() {
        FindingsWeb x = Check.web("node 2 9 9;node 2 0 9;node 2 0 9;node 2 0 9;node 2 0 9");
        leaves(x, new int[][] {{1, 0, 1, 3}, {2, 0, 1, 5}, {3, 0, 1, 9}, {0, 0, 1, 17}, {4, 0, 0, 16}});
        clusters(x, new int[][] {{3, -1, 0}, {5, 0, 1}, {9, 0, 1}, {17, 0, 1}});
    }

    /** CLUSTER 1 has nothing in common with CLUSTER 0, so 2 comes first. */
    private static void promise24Order() {
        FindingsWeb x = Check.web("node 2 9 9;node 2 9 9;node 2 0 9;node 2 1 9;node 2 2 3");
        clusters(x, new int[][] {{5, -1, 0}, {10, 2, 8}, {28, 0, 4}});
    }

    /** Each call tells of the web as it is then. */
    private static void promise24Anew() {
        FindingsWeb x = Check.web("node 2 9 9;node 2 0 9");
        clusters(x, new int[][] {{3, -1, 0}});
        x.node(2, 0, 1, -1);
        clusters(x, new int[][] {{3, -1, 0}, {6, 0, 2}});
        x.done(1, 0);
        clusters(x, new int[][] {{1, -1, 0}, {6, 0, 0}});
        x.done(2, 0);
        clusters(x, new int[][] {{1, -1, 0}, {2, 0, 0}, {4, 0, 0}});
        x.done(1, -1);
        clusters(x, new int[][] {{3, -1, 0}, {4, 0, 0}});
    }

    private static void promise24NothingInCommon() {
        FindingsWeb x = Check.web("node 2 9 9;node 2 9 9;node 2 1 9;node 2 9 9");
        clusters(x, new int[][] {{1, -1, 0}, {6, 0, 0}, {8, 0, 0}});
    }

    private static void promise25Cost() {
        FindingsWeb x = ring();
        Check.due("by least FILL", x.cost(-1), 12 + 18 + 18 + 6 + 3);
        long[][] orders = {{4, 0, 1, 2, 3}, {0, 1, 2, 3, 4}, {4, 1, 3, 2, 0}};
        int[] costs = {57, 36 + 36 + 12 + 6 + 2, 12 + 12 + 12 + 4 + 2};
        for (int sort = 0; sort < 3; sort++) {
            for (int i = 0; i < 3; i++) {
                Check.fill(x, 3, sort, orders[i]);
                Check.due("order " + i, x.cost(3), costs[i]);
            }
        }
        FindingsWeb none = new FindingsWeb();
        none.sheet(0, 1, 0);
        Check.due("of no NODES", none.cost(-1), 0);
        Check.due("of no NODES", none.cost(0), 0);
    }

    private static void promise25WrongSheets() {
        FindingsWeb x = ring();
        Check.due("no SHEET", x.cost(4), FindingsWeb.BAD);
        Check.due("no SHEET", x.cost(-2), FindingsWeb.BAD);
        Check.due("missing", x.cost(2), -11);
        long[][] wrong = {{}, {0, 1, 2, 3}, {0, 1, 2, 3, 3}, {0, 1, 2, 3, 5}, {0, 1, 2, 3, -1}, {0, 1, 2, 3, 4, 4},
            {0, 1, 2, 3, 4, -1}, {0, 1, 2, 3, (1L << 32) + 4}, {0, 0, 1, 2, 3, 4}};
        for (long[] items : wrong) {
            Check.fill(x, 2, 0, items);
            Check.due("not each once", x.cost(2), FindingsWeb.STATE);
        }
    }
}
