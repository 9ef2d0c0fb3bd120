import java.lang.management.ManagementFactory;

/** All calls of a run live in one room: a call makes no object, and a new object is small. */
public final class RoomTest {
    private static final int OBJECTS = 40;
    /** No object is used for more than 512 calls; a round has 55. */
    private static final int ROUNDS = 8;
    private static final int MOST_BYTES_OF_AN_OBJECT = 2500;

    private static long sink = 0;

    public static void main(String[] args) {
        com.sun.management.ThreadMXBean threads =
            (com.sun.management.ThreadMXBean) ManagementFactory.getThreadMXBean();
        RightIfAsMany[] told = new RightIfAsMany[OBJECTS];
        for (int i = 0; i < OBJECTS; i++) {
            told[i] = Check.told("T21407N0P5N9P1P5P3P3P2P2P8");
        }
        everyCall(new RightIfAsMany(), 0);
        long id = Thread.currentThread().getId();
        threads.getThreadAllocatedBytes(id);
        long before = threads.getThreadAllocatedBytes(id);
        for (int i = 0; i < OBJECTS; i++) {
            for (int round = 0; round < ROUNDS; round++) {
                everyCall(told[i], i + round);
            }
        }
        long bytes = threads.getThreadAllocatedBytes(id) - before;
        // What the measure itself makes is not counted a call: it is less than a byte each.
        long rounds = (long) OBJECTS * ROUNDS;
        Check.holds(bytes + " bytes made by " + rounds + " rounds of calls", bytes < rounds * 30);
        RightIfAsMany[] many = new RightIfAsMany[1000];
        before = threads.getThreadAllocatedBytes(id);
        for (int i = 0; i < many.length; i++) {
            many[i] = new RightIfAsMany();
        }
        bytes = (threads.getThreadAllocatedBytes(id) - before) / many.length;
        Check.holds(bytes + " bytes of an object", bytes < MOST_BYTES_OF_AN_OBJECT);
        Check.holds("answers were given", sink != 0 && many[999].count(0) == 0);
        Check.end();
    }

    private static void everyCall(RightIfAsMany x, int round) {
        int n = round % 12 - 1;
        sink += x.wipe() + x.write(8, 0x5432313430374E30L) + x.write(6, 0x503550315038L) + x.fault() + x.table();
        sink += x.come(3) + x.come(3) + x.come(2) + x.slip(1, 7) + x.leave(0) + x.round() + x.undo() + x.settled();
        sink += x.ways(n) + x.wrong(n) + x.agreed(n) + x.late() + x.rests(n) + x.wrote(n);
        sink += x.tenths(n, 5) + x.tenths(2, 5) + x.allRight(n, true) + x.mean(n, false) + x.forget(n, 3, true);
        sink += x.pay(n, 5) + x.cheated() + x.unpay() + x.seed(round) + x.won(n, 40) + x.keep(0) + x.again(0);
        for (int what = -1; what <= 10; what++) {
            sink += x.count(what) + x.person(n, what);
        }
    }
}
