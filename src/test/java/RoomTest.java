import java.lang.management.ManagementFactory;

/** The dearest calls, as often as an object may be called: what they make stays far below the room of a run. */
public final class RoomTest {
    // The room is 7.3 million fields and elements; at four bytes each, and more for headers, that is some 30 million.
    private static final long MOST_BYTES = 8_000_000L;
    private static int wrong = 0;

    public static void main(String[] args) {
        dearestCuts(new RopeShelf());
        measure("cuts that balance at every level", true);
        measure("joins that balance", false);
        System.out.println(wrong == 0 ? "the room suffices" : "too much is made");
        if (wrong != 0) {
            System.exit(1);
        }
    }

    private static void measure(String name, boolean cuts) {
        RopeShelf shelf = new RopeShelf();
        long before = allocated();
        int pieces = cuts ? dearestCuts(shelf) : dearestJoins(shelf);
        long made = allocated() - before;
        System.out.println(name + ": " + pieces + " pieces, " + made + " bytes");
        if (made > MOST_BYTES || pieces < 100) {
            wrong++;
        }
    }

    private static long allocated() {
        com.sun.management.ThreadMXBean bean =
                (com.sun.management.ThreadMXBean) ManagementFactory.getThreadMXBean();
        return bean.getThreadAllocatedBytes(Thread.currentThread().getId());
    }

    /** A rope of 119 single signs that is 12 deep, the most of it far down; then cut with DEEP 1, all but its ends. */
    private static int dearestCuts(RopeShelf x) {
        x.rule(0, 0);
        x.rule(1, 12);
        x.say(1);
        x.put(0);
        x.copy(1, 0);
        for (int i = 0; i < 6; i++) {
            x.join(1, 1, 1);
        }
        x.cut(2, 1, 0, 50);
        x.join(1, 2, 1);
        for (int i = 0; i < 5; i++) {
            x.join(1, 1, 0);
        }
        int depth = x.told(1, 2);
        int pieces = x.told(1, 3);
        if (depth < 12) {
            wrong++;
            System.out.println("the rope is only " + depth + " deep");
        }
        x.rule(1, 1);
        for (int call = 22; call < 512; call++) {
            x.cut(3, 1, 1, pieces - 2 - call % 2);
        }
        return pieces;
    }

    private static int dearestJoins(RopeShelf x) {
        x.rule(0, 0);
        x.rule(1, 1);
        x.say(1);
        x.put(0);
        x.copy(1, 0);
        for (int i = 0; i < 5; i++) {
            x.join(1, 1, 1);
        }
        x.cut(4, 1, 0, 24);
        x.join(2, 1, 1);
        x.join(2, 2, 1);
        for (int call = 14; call < 512; call++) {
            x.join(3, 2, 4);
        }
        return x.told(3, 3);
    }
}
