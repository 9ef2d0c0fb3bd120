/** Promises 14 to 17: in how many ways all can be right, the fewest wrong, the first row, one more. */
public final class AgreedTest {
    private static final int UNKNOWN = -1, OUTSIDE = -2, FULL = -4, NONE = -9;

    public static void main(String[] args) {
        ways();
        wrong();
        agreed();
        late();
        lateByLaw();
        Check.end();
    }

    // Promise 14
    private static void dueWays(String table, int... want) {
        RightIfAsMany x = Check.told(table);
        String before = Check.seen(x);
        for (int n = 0; n < want.length; n++) {
            Check.due(table + ": ways(" + n + ")", x.ways(n), want[n]);
        }
        Check.refused(table + ": ways(10)", x, before, x.ways(10), OUTSIDE);
        Check.refused(table + ": ways(-1)", x, before, x.ways(-1), OUTSIDE);
        Check.refused(table + ": ways(max)", x, before, x.ways(Integer.MAX_VALUE), OUTSIDE);
        Check.refused(table + ": ways(min)", x, before, x.ways(Integer.MIN_VALUE), OUTSIDE);
    }

    private static void ways() {
        // Law 0: rows of 1, 2 2, 3 3 3, ..: of three people 333, or 1 and 2 2 in three orders.
        dueWays("T00000", 1, 1, 1, 4, 5, 16, 82, 169, 541, 2272);
        dueWays("T00000N1", 1, 0, 1, 1, 1, 11);
        dueWays("T00000N0N1N2N3N4N5N6N7N8P9", 1, 0, 0, 0, 0, 0, 0, 0, 0, 1);
        dueWays("T00000N1N2N3N4N5N6N7N8N9P0", 1, 0, 0, 0, 0, 0, 0, 0, 0, 0);
        // Law 1: of two 0 0, 0 1, 1 0, 1 1, 2 2.
        dueWays("T10000", 1, 2, 5);
        dueWays("T10000N2N3N4N5N6N7N8N9", 1, 2, 4, 8, 16, 32, 64, 128, 256, 512);
        // Law 2: of one 1 to 9; of two all of these but 1 1.
        dueWays("T20000", 1, 9, 80);
        dueWays("T20000N0N1N2N3N4N5N6N7N8P9", 1, 1, 1, 1, 1, 1, 1, 1, 1, 1);
        dueWays("T20000N0N1N2N3N4N5N6N7N9P8", 1, 1, 1, 1, 1, 1, 1, 1, 1, 0);
        dueWays("T20000N0N1N2N3N4N5N6", 1, 3, 9, 27, 81, 243, 729, 2187, 6560);
    }

    // Promise 15
    private static void dueWrong(String table, int... want) {
        RightIfAsMany x = Check.told(table);
        String before = Check.seen(x);
        for (int n = 0; n < want.length; n++) {
            Check.due(table + ": wrong(" + n + ")", x.wrong(n), want[n]);
        }
        Check.refused(table + ": wrong(10)", x, before, x.wrong(10), OUTSIDE);
        Check.refused(table + ": wrong(-1)", x, before, x.wrong(-1), OUTSIDE);
        Check.refused(table + ": wrong(max)", x, before, x.wrong(Integer.MAX_VALUE), OUTSIDE);
        Check.refused(table + ": wrong(min)", x, before, x.wrong(Integer.MIN_VALUE), OUTSIDE);
    }

    private static void wrong() {
        dueWrong("T00000", 0, 0, 0, 0, 0, 0, 0, 0, 0, 0);
        dueWrong("T00000N1", 0, 1, 0, 0, 0, 0, 0, 0, 0, 0);
        // With 5 alone a sixth makes all wrong.
        dueWrong("T00000N0N1N2N3N4N6N7N8N9P5", 0, 1, 2, 3, 4, 0, 6, 7, 8, 9);
        // With 0 beside it the others write 0.
        dueWrong("T00000N1N2N3N4N6N7N8N9P5", 0, 1, 2, 3, 4, 0, 1, 2, 3, 4);
        dueWrong("T00000N0N2N4N5N6N7N8N9P3", 0, 0, 1, 0, 0, 2, 3, 4, 5, 6);
        dueWrong("T10000N0N1N2P3", 0, 1, 2, 0, 0, 0, 0, 0, 0, 0);
        dueWrong("T20000N3N4N5N6N7N8N9", 0, 0, 0, 0, 1, 2, 3, 4, 5, 6);
        dueWrong("T20000N0N3N4N5N6N7N8N9", 0, 0, 0, 0, 2, 3, 4, 5, 6, 7);
    }

    // Promise 16
    private static void dueAgreed(String table, String want) {
        RightIfAsMany x = Check.told(table);
        String before = Check.seen(x);
        int size = x.count(1);
        for (int person = 0; person < size; person++) {
            int due = want.isEmpty() ? NONE : want.charAt(person) - '0';
            Check.due(table + ": agreed(" + person + ")", x.agreed(person), due);
        }
        Check.refused(table + ": agreed(" + size + ")", x, before, x.agreed(size), UNKNOWN);
        Check.refused(table + ": agreed(-1)", x, before, x.agreed(-1), UNKNOWN);
        Check.refused(table + ": agreed(max)", x, before, x.agreed(Integer.MAX_VALUE), UNKNOWN);
    }

    private static void agreed() {
        dueAgreed("T00000", "");
        dueAgreed("T00000P9", "1");
        dueAgreed("T00000P9P9", "22");
        dueAgreed("T00000P9P9P9", "122");
        dueAgreed("T00000P9P9P9P9", "1333");
        dueAgreed("T00000P9P9P9P9P9", "14444");
        dueAgreed("T00000P9P9P9P9P9P9", "122333");
        dueAgreed("T00000P9P9P9P9P9P9P9P9P9", "122666666");
        dueAgreed("T00000N1P9P9P9P9P9", "22333");
        dueAgreed("T00000N1P9", "");
        dueAgreed("T00000N2N3P9P9P9P9P9P9", "155555");
        dueAgreed("T10000P9P9P9", "000");
        dueAgreed("T10000N0N1P9P9P9", "222");
        dueAgreed("T10000N0N1P9", "");
        dueAgreed("T20000P9P9P9P9", "1223");
        dueAgreed("T20000N1P9P9P9P9", "2233");
        dueAgreed("T20000N3N4N5N6N7N8N9P2P2P2", "122");
        dueAgreed("T20000N3N4N5N6N7N8N9P2P2P2P2", "");
    }

    // Promise 17
    private static void dueLate(String table, int want) {
        RightIfAsMany x = Check.told(table);
        String before = Check.seen(x);
        Check.refused(table + ": late()", x, before, x.late(), want);
    }

    private static void late() {
        dueLate("T00000", 0);
        dueLate("T00000P1", 1);
        dueLate("T00000P2", 0);
        dueLate("T00000P2P2", 0);
        dueLate("T00000P1P2", 0);
        dueLate("T00000P1P1", 1);
        dueLate("T00000P0P0P0", 3);
        dueLate("T00000P1P2P2", 2);
        dueLate("T00000P4P4P4P1", 0);
        dueLate("T00000N1", NONE);
        dueLate("T00000N1P5", 1);
        dueLate("T00000N0N1N2N3N4N6N7N8N9P5P5P5P5", 0);
        dueLate("T00000N0N1N2N3N4N6N7N8N9P5P5P5", NONE);
        dueLate("T00000N0N1N2N3N4N6N7N8N9P5P5P5P5P5", NONE);
        dueLate("T00000P1P1P1P1P1P1P1P1P1", FULL);
        dueLate("T00000P8P8P8P8P8P8P8P8", 0);
        dueLate("T00000P9P9P9P9P9P9P9P9", 0);
    }

    private static void lateByLaw() {
        dueLate("T10000P9P9P9", 3);
        dueLate("T10000N0N1P3P3P9", 1);
        dueLate("T10000N0N1N2N3P4P4", NONE);
        dueLate("T20000P0P0", 2);
        dueLate("T20000P1P1", 1);
        dueLate("T20000P2P2", 0);
        dueLate("T20000N3N4N5N6N7N8N9P1P2", 0);
        dueLate("T20000N3N4N5N6N7N8N9P1P2P2", NONE);
    }
}
