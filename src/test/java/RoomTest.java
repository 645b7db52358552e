import java.lang.management.ManagementFactory;

/** What calls make must stay small: all calls of one run live in one room of 600,000 objects. */
public final class RoomTest {
    private static final long BYTES_OF_A_NEW_OBJECT = 20_000;

    public static void main(String[] args) {
        com.sun.management.ThreadMXBean meter = (com.sun.management.ThreadMXBean) ManagementFactory.getThreadMXBean();
        long warm = calls(full());
        long before = meter.getCurrentThreadAllocatedBytes();
        FindingsWeb x = full();
        long made = meter.getCurrentThreadAllocatedBytes() - before;
        before = meter.getCurrentThreadAllocatedBytes();
        long sum = calls(x);
        long used = meter.getCurrentThreadAllocatedBytes() - before;
        Check.due("the same calls", sum, warm);
        Check.that("a new object takes " + made + " bytes", made < BYTES_OF_A_NEW_OBJECT);
        Check.that("calls take " + used + " bytes", used < BYTES_OF_A_NEW_OBJECT);
        Check.end("RoomTest");
    }

    private static FindingsWeb full() {
        FindingsWeb x = new FindingsWeb();
        for (int i = 0; i < 7; i++) x.node(3, 0, i > 0 ? i - 1 : -1, i > 1 ? i - 2 : -1);
        x.hint(6, 1, 2, 3);
        return x;
    }

    /** Each kind of call a hundred times and more. */
    private static long calls(FindingsWeb x) {
        String text = "hint 0 1 1 1;told 0 9;row 0 0 4 4 4;done 0 9";
        long sum = 0;
        for (int i = 0; i < 100; i++) {
            for (int k = 0; k < text.length(); k++) x.feed(text.charAt(k));
            sum += x.text() + x.print(6, -1) + x.weight() + x.power(1) + x.odds(6, 0, 0) + x.both(6, 0, 0, 0, 1);
            sum += x.would(3, 0, 6, 0, 0) + x.without(6, 0, 0, 1) + x.likely(6) + x.apart(0, 6) + x.tells(0, 6, 1);
            sum += x.telling(6) + x.leaves(6, 3) + x.cluster(2, 1) + x.cost(-1) + x.drawn(i, 6) + x.chance(i, 8, 6, 0, 1);
            sum += x.film(1) + x.shown(1, 0) + x.image() + x.back() + x.sheet(0, 0, 7) + x.put(0, 0, -1) + x.item(0, 0);
            sum += x.copy(0, 0, 0, 1, 6) + x.lay(0, 0) + x.count(5) + x.count(6);
        }
        return sum;
    }
}
