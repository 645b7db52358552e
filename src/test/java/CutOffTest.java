/** Promises 20 to 22: who is CUT OFF, what TELLS most. */
public final class CutOffTest {
    public static void main(String[] args) {
        promise20Chain();
        promise20Fork();
        promise20Collider();
        promise20Below();
        promise20Done();
        promise20BelowByTheSecond();
        promise20LongWays();
        promise20NoNodeTwice();
        promise20WrongNumbers();
        promise21Tells();
        promise22Telling();
        promise22NoneAndState();
        Check.end("CutOffTest");
    }

    private static void apart(FindingsWeb x, int node, int other, int want) {
        Check.due("apart " + node + " " + other, x.apart(node, other), want);
        Check.due("apart " + other + " " + node, x.apart(other, node), want);
    }

    private static void promise20Chain() {
        FindingsWeb x = Check.web("node 2 9 9;node 2 0 9;node 2 1 9;node 2 9 9");
        apart(x, 0, 2, 0);
        apart(x, 0, 1, 0);
        apart(x, 0, 3, 1);
        x.hint(1, 0, 1, 1);
        apart(x, 0, 2, 0);
        x.told(1, 0);
        apart(x, 0, 2, 1);
        apart(x, 0, 1, 1);
    }

    private static void promise20Fork() {
        FindingsWeb x = Check.web("node 2 9 9;node 2 0 9;node 2 0 9");
        apart(x, 1, 2, 0);
        x.hint(0, 0, 1, 1);
        apart(x, 1, 2, 0);
        x.told(0, 1);
        apart(x, 1, 2, 1);
        x.told(0, -1);
        x.told(1, 1);
        apart(x, 1, 2, 1);
        apart(x, 0, 2, 0);
    }

    private static void promise20Collider() {
        FindingsWeb x = Check.web("node 2 9 9;node 2 9 9;most 2 0 1");
        apart(x, 0, 1, 1);
        x.told(2, 1);
        apart(x, 0, 1, 0);
        x.told(2, -1);
        x.hint(2, 1, 2, 0);
        apart(x, 0, 1, 0);
        x.told(2, 1);
        apart(x, 0, 1, 0);
        x.told(2, -1);
        x.hint(2, 3, 3, 0);
        apart(x, 0, 1, 1);
    }

    /** What is below NODE 2 opens it, as far down as it goes, but not through one that is DONE. */
    private static void promise20Below() {
        FindingsWeb x = Check.web("node 2 9 9;node 2 9 9;node 2 0 1;node 2 2 9;node 2 3 9");
        x.told(4, 0);
        apart(x, 0, 1, 0);
        x.told(4, -1);
        x.hint(4, 0, 3, 0);
        apart(x, 0, 1, 0);
        x.done(4, 1);
        apart(x, 0, 1, 1);
        x.done(4, -1);
        x.done(3, 1);
        apart(x, 0, 1, 1);
        x.done(3, -1);
        x.told(3, 1);
        apart(x, 0, 1, 0);
        x.done(3, 0);
        apart(x, 0, 1, 1);
    }

    /** NODE 2 is the second PARENT of 5, which is told. */
    private static void promise20BelowByTheSecond() {
        FindingsWeb x = Check.web("node 2 9 9;node 2 9 9;node 2 0 1;node 2 9 9;node 2 9 9", "node 2 3 2;told 5 1");
        apart(x, 0, 1, 0);
        x.done(5, 1);
        apart(x, 0, 1, 1);
        x.done(5, -1);
        x.told(5, -1);
        apart(x, 0, 1, 1);
        x.told(3, 1);
        x.told(4, 1);
        apart(x, 0, 1, 1);
        FindingsWeb y = Check.web("node 2 9 9;node 2 9 9;node 2 0 1;node 2 9 9;node 2 3 0", "told 4 1");
        apart(y, 0, 1, 1);
        apart(y, 0, 3, 0);
    }

    private static void promise20LongWays() {
        FindingsWeb x = new FindingsWeb();
        for (int i = 0; i < 7; i++) x.node(2, 0, i - 1, -1);
        apart(x, 0, 6, 0);
        x.told(3, 1);
        apart(x, 0, 6, 1);
        apart(x, 0, 2, 0);
        FindingsWeb y = Check.web("node 2 9 9;node 2 9 9;node 2 9 9;node 2 9 9", "node 2 0 1;node 2 1 2;node 2 2 3", "hint 4 1 2 1;hint 5 1 2 1");
        apart(y, 0, 3, 1);
        apart(y, 0, 2, 0);
        y.told(6, 0);
        apart(y, 0, 3, 0);
        y.told(2, 0);
        apart(y, 0, 3, 1);
    }

    private static void promise20Done() {
        FindingsWeb x = Check.web("node 2 9 9;node 2 0 9;node 2 1 9;node 2 0 2");
        apart(x, 0, 1, 0);
        x.done(0, 1);
        apart(x, 0, 1, 0);
        x.done(1, 1);
        apart(x, 0, 1, 1);
        apart(x, 1, 2, 0);
        apart(x, 0, 2, 1);
        x.told(3, 1);
        apart(x, 0, 2, 0);
        apart(x, 0, 1, 0);
        x.done(3, 1);
        apart(x, 0, 2, 1);
    }

    /** 0 -> 2 <- 1 and 2 -> 3: the one WAY from 0 to 1 by 3 would meet 2 twice. */
    private static void promise20NoNodeTwice() {
        FindingsWeb x = Check.web("node 2 9 9;node 2 9 9;node 2 0 1;node 2 2 9");
        apart(x, 0, 1, 1);
        apart(x, 0, 3, 0);
        x.told(2, 0);
        apart(x, 0, 3, 1);
        apart(x, 0, 1, 0);
    }

    private static void promise20WrongNumbers() {
        FindingsWeb x = Check.web("node 2 9 9;node 2 0 9");
        int[][] bad = {{0, 0}, {1, 1}, {0, 2}, {2, 0}, {-1, 0}, {0, -1}, {2, 2}, {-1, -1}};
        for (int[] b : bad) Check.due("apart", x.apart(b[0], b[1]), FindingsWeb.BAD);
        x.told(0, 0);
        for (int[] b : bad) Check.due("apart", x.apart(b[0], b[1]), FindingsWeb.BAD);
    }

    private static void tells(FindingsWeb x, int node, int other, long above, long below) {
        Check.fraction("tells " + node + " " + other, x.tells(node, other, 0), x.tells(node, other, 1), above, below);
    }

    /** WEIGHTS: (0, 0) 36, (0, 1) 0, (1, 0) 36, (1, 1) 72; together 144. */
    private static FindingsWeb two() {
        return Check.web("node 2 9 9;node 2 0 9", "row 0 0 3 9 0;row 1 0 12 0 0;row 1 1 4 8 0");
    }

    private static void promise21Tells() {
        FindingsWeb x = two();
        tells(x, 0, 1, 3, 4);
        tells(x, 1, 0, 3, 4);
        x.told(1, 0);
        tells(x, 0, 1, 1, 2);
        tells(x, 1, 0, 1, 1);
        x.told(1, -1);
        x.hint(1, 0, 1, 0);
        tells(x, 1, 0, 1, 1);
        int[][] none = {{0, 0, 0}, {2, 0, 0}, {0, 2, 0}, {-1, 0, 0}, {0, -1, 0}, {0, 1, 2}, {0, 1, -1}};
        for (int[] n : none) Check.due("a number", x.tells(n[0], n[1], n[2]), FindingsWeb.NO);
        x.told(0, 0);
        for (int line = 0; line < 2; line++) Check.due("no WEIGHT", x.tells(0, 1, line), FindingsWeb.STATE);
        for (int[] n : none) Check.due("a number, named first", x.tells(n[0], n[1], n[2]), FindingsWeb.NO);
        FindingsWeb y = Check.web("node 3 9 9;most 2 0 9");
        tells(y, 0, 1, 2, 3);
        tells(y, 1, 0, 1, 1);
    }

    private static void promise22Telling() {
        FindingsWeb x = Check.web("node 2 9 9;node 2 0 9;node 2 0 9;node 2 9 9", "row 1 0 9 3 0;row 1 1 3 9 0",
            "row 2 0 11 1 0;row 2 1 1 11 0");
        Check.due("the greatest", x.telling(0), 2);
        Check.due("of its PARENT and another one", x.telling(1), 0);
        Check.due("none tells: the least number", x.telling(3), 0);
        x.told(2, 0);
        Check.due("one without a FINDING", x.telling(0), 1);
        x.told(2, -1);
        x.done(2, 0);
        Check.due("one that isn't DONE", x.telling(0), 1);
        x.done(2, -1);
        x.row(2, 0, 9, 3, 0);
        x.row(2, 1, 3, 9, 0);
        Check.due("of several the least number", x.telling(0), 1);
        x.told(0, 1);
        Check.due("one that is told itself", x.telling(0), 1);
    }

    private static void promise22NoneAndState() {
        FindingsWeb x = two();
        Check.due("the other", x.telling(0), 1);
        x.told(1, 0);
        Check.due("none", x.telling(0), FindingsWeb.NONE);
        Check.due("no NODE", x.telling(2), FindingsWeb.BAD);
        Check.due("no NODE", x.telling(-1), FindingsWeb.BAD);
        x.done(1, 1);
        Check.due("no WEIGHT", x.telling(0), FindingsWeb.STATE);
        Check.due("no WEIGHT", x.telling(1), FindingsWeb.STATE);
        Check.due("no NODE, named first", x.telling(2), FindingsWeb.BAD);
        x.told(1, -1);
        Check.due("none", x.telling(0), FindingsWeb.NONE);
        Check.due("none of one", Check.web("node 2 9 9").telling(0), FindingsWeb.NONE);
    }
}
