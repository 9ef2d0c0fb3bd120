/** Promises 18 to 21: tenths, how likely all are right, how many in the mean, forgetting. */
public final class ChancesTest {
    private static final int UNKNOWN = -1, OUTSIDE = -2, STATE = -3;

    public static void main(String[] args) {
        tenths();
        allRight();
        mean();
        refusalsOfChances();
        forget();
        forgetByLaw();
        Check.end();
    }

    /** Tenths of the numbers 0, 1, .. that are named; the others have none. */
    private static void put(RightIfAsMany x, int... tenths) {
        for (int number = 0; number <= 9; number++) {
            x.tenths(number, number < tenths.length ? tenths[number] : 0);
        }
    }

    // Promise 18
    private static void tenths() {
        RightIfAsMany x = Check.told("T00000N3P1");
        String before = Check.seen(x);
        Check.refused("tenths(10, 0)", x, before, x.tenths(10, 0), OUTSIDE);
        Check.refused("tenths(-1, 0)", x, before, x.tenths(-1, 0), OUTSIDE);
        Check.refused("tenths(0, 11)", x, before, x.tenths(0, 11), OUTSIDE);
        Check.refused("tenths(0, -1)", x, before, x.tenths(0, -1), OUTSIDE);
        Check.refused("tenths(max, 0)", x, before, x.tenths(Integer.MAX_VALUE, 0), OUTSIDE);
        Check.refused("tenths(0, min)", x, before, x.tenths(0, Integer.MIN_VALUE), OUTSIDE);
        Check.due("tenths(1, 4)", x.tenths(1, 4), 10);
        Check.due("tenths(1, 0)", x.tenths(1, 0), 4);
        Check.due("tenths(3, 10), that is BARRED", x.tenths(3, 10), 0);
        Check.due("tenths(3, 10)", x.tenths(3, 10), 10);
        Check.due("tenths(9, 10): more than ten together", x.tenths(9, 10), 0);
        Check.due("tenths(9, 1)", x.tenths(9, 1), 10);
    }

    private static void dueAllRight(RightIfAsMany x, int n, long above, long below) {
        Check.due("allRight(" + n + ", true)", x.allRight(n, true), above);
        Check.due("allRight(" + n + ", false)", x.allRight(n, false), below);
    }

    private static void dueMean(RightIfAsMany x, int n, long above, long below) {
        Check.due("mean(" + n + ", true)", x.mean(n, true), above);
        Check.due("mean(" + n + ", false)", x.mean(n, false), below);
    }

    // Promise 19
    private static void allRight() {
        RightIfAsMany x = new RightIfAsMany();
        dueAllRight(x, 0, 1, 1);
        dueAllRight(x, 1, 1, 1);
        dueAllRight(x, 2, 0, 1);
        put(x, 0, 3, 4, 3);
        dueAllRight(x, 0, 1, 1);
        dueAllRight(x, 1, 3, 10);
        dueAllRight(x, 2, 4, 25);
        dueAllRight(x, 3, 171, 1000);
        dueAllRight(x, 7, 0, 1);
        put(x, 0, 0, 0, 0, 0, 0, 0, 0, 0, 10);
        dueAllRight(x, 9, 1, 1);
        dueAllRight(x, 8, 0, 1);
        put(x, 0, 0, 0, 0, 0, 0, 0, 0, 1, 9);
        dueAllRight(x, 9, 387420489, 1000000000);
        RightIfAsMany barred = Check.told("T00000N1N2P5");
        put(barred, 0, 3, 4, 3);
        dueAllRight(barred, 3, 171, 1000);
        RightIfAsMany least = Check.told("T10000");
        put(least, 5, 0, 5);
        // Of two 0 0 and 2 2; of three 0 0 0, 2 2 2 and three with one 0.
        dueAllRight(least, 1, 1, 2);
        dueAllRight(least, 2, 1, 2);
        dueAllRight(least, 3, 5, 8);
        RightIfAsMany most = Check.told("T20000");
        put(most, 0, 5, 5);
        dueAllRight(most, 1, 1, 1);
        dueAllRight(most, 2, 3, 4);
        dueAllRight(most, 3, 3, 8);
        dueAllRight(most, 4, 0, 1);
    }

    // Promise 20
    private static void mean() {
        RightIfAsMany x = new RightIfAsMany();
        dueMean(x, 0, 0, 1);
        dueMean(x, 1, 1, 1);
        dueMean(x, 2, 0, 1);
        put(x, 5, 5);
        dueMean(x, 1, 1, 2);
        dueMean(x, 2, 1, 2);
        dueMean(x, 3, 3, 8);
        put(x, 0, 3, 4, 3);
        dueMean(x, 0, 0, 1);
        dueMean(x, 3, 549, 500);
        put(x, 1, 1, 1, 1, 1, 1, 1, 1, 1, 1);
        dueMean(x, 1, 1, 10);
        dueMean(x, 2, 1, 5);
        put(x, 0, 0, 0, 0, 0, 0, 0, 0, 0, 10);
        dueMean(x, 9, 9, 1);
        RightIfAsMany barred = Check.told("T00000N0N1P5");
        put(barred, 5, 5);
        dueMean(barred, 2, 1, 2);
        RightIfAsMany least = Check.told("T10000");
        put(least, 10);
        dueMean(least, 9, 9, 1);
        put(least, 5, 0, 5);
        // Of two 0 0 and 2 2 have two, the two others one.
        dueMean(least, 2, 3, 2);
        RightIfAsMany most = Check.told("T20000");
        put(most, 5, 5);
        dueMean(most, 2, 1, 2);
        dueMean(most, 1, 1, 2);
    }

    private static void dueRefused(int tenthsOf0, int tenthsOf1, int n, int want) {
        RightIfAsMany x = Check.told("T00100P1P2");
        x.tenths(0, tenthsOf0);
        x.tenths(1, tenthsOf1);
        String before = Check.seen(x);
        Check.refused("allRight(" + n + ", true)", x, before, x.allRight(n, true), want);
        Check.refused("allRight(" + n + ", false)", x, before, x.allRight(n, false), want);
        Check.refused("mean(" + n + ", true)", x, before, x.mean(n, true), want);
        Check.refused("mean(" + n + ", false)", x, before, x.mean(n, false), want);
    }

    private static void refusalsOfChances() {
        for (int n : new int[] {-1, 10, Integer.MIN_VALUE, Integer.MAX_VALUE}) {
            // Ten together, then nine: the number is looked at first.
            dueRefused(0, 10, n, OUTSIDE);
            dueRefused(0, 9, n, OUTSIDE);
        }
        for (int n = 0; n <= 9; n += 3) {
            dueRefused(0, 9, n, STATE);
            dueRefused(2, 9, n, STATE);
            dueRefused(10, 9, n, STATE);
        }
    }

    // Promise 21
    private static void dueForget(String table, int person, int tenths, long above, long below) {
        RightIfAsMany x = Check.told(table);
        x.tenths(1, 3);
        String call = table + ": forget(" + person + ", " + tenths + ", ";
        String before = Check.seen(x);
        Check.refused(call + "true)", x, before, x.forget(person, tenths, true), above);
        Check.refused(call + "false)", x, before, x.forget(person, tenths, false), below);
    }

    private static void forget() {
        String table = "T00000P1P2P2P3P3P3P3P0P5";
        dueForget(table, 0, 0, 1, 1);
        dueForget(table, 0, 3, 7, 10);
        dueForget(table, 0, 10, 0, 1);
        dueForget(table, 1, 2, 16, 25);
        dueForget(table, 2, 2, 16, 25);
        // Four wrote 3: it is right if one of the three others forgets.
        dueForget(table, 3, 0, 0, 1);
        dueForget(table, 3, 5, 3, 16);
        dueForget(table, 6, 1, 2187, 10000);
        dueForget(table, 7, 5, 0, 1);
        dueForget(table, 8, 0, 0, 1);
        for (int wrong : new int[] {-1, 11, Integer.MIN_VALUE, Integer.MAX_VALUE}) {
            dueForget(table, 0, wrong, OUTSIDE, OUTSIDE);
            dueForget(table, 9, wrong, UNKNOWN, UNKNOWN);
            dueForget(table, wrong, 5, UNKNOWN, UNKNOWN);
        }
        dueForget("T00000P9P9P9P9P9P9P9P9P9", 8, 1, 387420489, 1000000000);
    }

    private static void forgetByLaw() {
        String least = "T10000P2P2P2P0";
        dueForget(least, 0, 0, 1, 1);
        dueForget(least, 0, 5, 3, 8);
        dueForget(least, 3, 4, 3, 5);
        String most = "T20000P1P1P0";
        dueForget(most, 0, 0, 0, 1);
        dueForget(most, 0, 5, 1, 4);
        dueForget(most, 2, 1, 0, 1);
    }
}
