/** Promises 22 to 27: rows at rest, payments, evenings by a seed. */
public final class RestsTest {
    private static final int UNKNOWN = -1, OUTSIDE = -2, FULL = -4, NONE = -9;
    private static final long TIMES = 6364136223846793005L, PLUS = 1442695040888963407L;

    public static void main(String[] args) {
        rests();
        pay();
        unpay();
        cheated();
        seed();
        wonByHand();
        wonRefused();
        wonByLaw();
        Check.end();
    }

    // Promise 22
    private static void dueRests(String table, int... want) {
        RightIfAsMany x = Check.told(table);
        String before = Check.seen(x);
        for (int n = 0; n < want.length; n++) {
            Check.refused(table + ": rests(" + n + ")", x, before, x.rests(n), want[n]);
        }
        Check.refused(table + ": rests(5)", x, before, x.rests(5), OUTSIDE);
        Check.refused(table + ": rests(-1)", x, before, x.rests(-1), OUTSIDE);
        Check.refused(table + ": rests(max)", x, before, x.rests(Integer.MAX_VALUE), OUTSIDE);
        Check.refused(table + ": rests(min)", x, before, x.rests(Integer.MIN_VALUE), OUTSIDE);
    }

    private static void rests() {
        // No pot: nobody gets more elsewhere.
        dueRests("T00000", 1, 10, 100, 1000, 10000);
        dueRests("T00000N0N9", 1, 8, 64, 512, 4096);
        // One writes 1; of two: whoever could be alone with 1 wants it, so one of them has it, or both.
        dueRests("T00100", 1, 1, 19);
        // Law 1: of two 0 and 1 in any order; of 2 2 each would rather have all for itself.
        dueRests("T10100", 1, 2, 4);
        // Law 2: alone all but 0; of two all in which both are right.
        dueRests("T20100", 1, 9, 80);
        dueRests("T20100N1N2N3N4N5N6N7N8N9P0", 1, 1, 1, 1, 1);
        dueRests("T21100", 1, 9, 1, 1, 1);
    }

    // Promise 23
    private static void pay() {
        RightIfAsMany x = new RightIfAsMany();
        String before = Check.seen(x);
        Check.refused("pay(-1, 0)", x, before, x.pay(-1, 0), OUTSIDE);
        Check.refused("pay(9, 0)", x, before, x.pay(9, 0), OUTSIDE);
        Check.refused("pay(0, -1)", x, before, x.pay(0, -1), OUTSIDE);
        Check.refused("pay(0, 1000)", x, before, x.pay(0, 1000), OUTSIDE);
        Check.refused("pay(max, 0)", x, before, x.pay(Integer.MAX_VALUE, 0), OUTSIDE);
        Check.refused("pay(0, min)", x, before, x.pay(0, Integer.MIN_VALUE), OUTSIDE);
        for (int told = 1; told <= 12; told++) {
            Check.due("pay of people that are not there", x.pay(told % 9, told == 3 ? 999 : 0), told);
            Check.due("PAID", x.count(5), told);
        }
        before = Check.seen(x);
        Check.refused("pay(0, 0), the 13th", x, before, x.pay(0, 0), FULL);
        Check.refused("pay(9, 0), the 13th", x, before, x.pay(9, 0), OUTSIDE);
        Check.refused("pay(0, 1000), the 13th", x, before, x.pay(0, 1000), OUTSIDE);
        Check.tell(x, "T00100P1");
        Check.due("pay(0, 100), the 13th", x.pay(0, 100), FULL);
        Check.due("what was refused does not count", x.cheated(), 0);
    }

    // Promise 24
    private static void unpay() {
        RightIfAsMany x = Check.told("T00100P1");
        x.pay(0, 5);
        x.pay(0, 6);
        x.pay(7, 6);
        Check.due("cheated()", x.cheated(), 0);
        Check.due("unpay()", x.unpay(), 3);
        Check.due("PAID", x.count(5), 0);
        Check.due("cheated()", x.cheated(), NONE);
        Check.due("unpay() again", x.unpay(), 0);
        for (int told = 1; told <= 12; told++) {
            Check.due("pay(1, 1)", x.pay(1, 1), told);
        }
        Check.due("pay(1, 1)", x.pay(1, 1), FULL);
        Check.due("unpay()", x.unpay(), 12);
        Check.due("pay(1, 1)", x.pay(1, 1), 1);
    }

    // Promise 25
    private static void cheated() {
        RightIfAsMany x = Check.told("T00100P1P2P2P3");
        Check.due("nobody was PAID", x.cheated(), NONE);
        x.pay(8, 5);
        x.pay(4, 5);
        Check.due("two that are not there", x.cheated(), NONE);
        x.pay(0, 33);
        Check.due("PAID what it gets", x.cheated(), NONE);
        x.pay(3, 1);
        Check.due("PAID though it gets nothing", x.cheated(), 3);
        x.pay(1, 34);
        Check.due("the least one", x.cheated(), 1);
        x.pay(1, 33);
        Check.due("the last one counts", x.cheated(), 3);
        x.pay(3, 0);
        Check.due("all is mended", x.cheated(), NONE);
        x.pay(2, 0);
        Check.due("PAID nothing though it gets something", x.cheated(), 2);
        x.pay(2, 33);
        String before = Check.seen(x);
        Check.refused("cheated()", x, before, x.cheated(), NONE);
        x.slip(3, 9);
        x.come(5);
        Check.due("one bears the number that was PAID", x.cheated(), 4);
        x.pay(4, 0);
        Check.due("PAID nothing as it gets", x.cheated(), NONE);
        x.leave(0);
        Check.due("what they get is another", x.cheated(), 0);
        for (int person = 4; person < 8; person++) {
            x.come(9);
        }
        Check.due("come(9)", x.come(9), 8);
        x.slip(0, 2);
        Check.due("a new one bears the number of one that was PAID", x.cheated(), 0);
        x.unpay();
        x.pay(8, 5);
        Check.due("cheated()", x.cheated(), 8);
    }

    // Promise 26
    private static void seed() {
        RightIfAsMany x = new RightIfAsMany();
        Check.due("seed(5)", x.seed(5), 0);
        Check.due("seed(min)", x.seed(Long.MIN_VALUE), 5);
        Check.due("seed(max)", x.seed(Long.MAX_VALUE), Long.MIN_VALUE);
        Check.due("seed(-1)", x.seed(-1), Long.MAX_VALUE);
        Check.due("seed(-1)", x.seed(-1), -1);
        Check.tell(x, "T10100N1N2N3N4N5N6N7N8N9P0P0");
        x.seed(0);
        Check.due("won(0, 1)", x.won(0, 1), 50);
        Check.due("the seed went on, a step a PERSON", x.seed(0), PLUS * TIMES + PLUS);
    }

    // Promise 27: by THE SEED 0 the first one draws 167951807, which is odd.
    private static void wonByHand() {
        Check.due("the upper 31 bits", PLUS >>> 33, 167951807);
        Check.due("of 0 and 1 it writes 1", Check.told("T00100N2N3N4N5N6N7N8N9P0").won(0, 1), 100);
        Check.due("of 1 and 2 it writes 2", Check.told("T00100N0N3N4N5N6N7N8N9P1").won(0, 1), 0);
        RightIfAsMany x = Check.told("T20100P3");
        Check.due("won(0, 1): any number but 0 wins all", x.won(0, 1), 100);
        Check.due("the seed", x.seed(0), PLUS);
        RightIfAsMany only = Check.told("T00100N0N1N2N3N5N6N7N8N9P4P4P4P4");
        Check.due("won(0, 40)", only.won(0, 40), 1000);
        Check.due("won(3, 1)", only.won(3, 1), 25);
        only.leave(0);
        Check.due("won(2, 40)", only.won(2, 40), 0);
    }

    private static void wonRefused() {
        RightIfAsMany x = Check.told("T20100P3");
        x.seed(123456789);
        String before = Check.seen(x);
        Check.refused("won(1, 1)", x, before, x.won(1, 1), UNKNOWN);
        Check.refused("won(-1, 1)", x, before, x.won(-1, 1), UNKNOWN);
        Check.refused("won(1, 0)", x, before, x.won(1, 0), UNKNOWN);
        Check.refused("won(0, 0)", x, before, x.won(0, 0), OUTSIDE);
        Check.refused("won(0, 41)", x, before, x.won(0, 41), OUTSIDE);
        Check.refused("won(0, -1)", x, before, x.won(0, -1), OUTSIDE);
        Check.refused("won(0, max)", x, before, x.won(0, Integer.MAX_VALUE), OUTSIDE);
        x.slip(0, 2);
        x.come(2);
        x.keep(0);
        Check.due("won(0, 40) is in its bounds", x.won(0, 40) >= 0 ? 0 : 1, 0);
        Check.duePeople("won changes nobody", x, "22");
        Check.due("ACTS stay", x.count(4), 2);
    }

    /** Evenings by the document's words alone, on a table whose numbers 0, 4 and 7 are barred. */
    private static int wonSlowly(int law, int size, int person, int m, long seed) {
        int[] open = {1, 2, 3, 5, 6, 8, 9};
        long state = seed;
        int together = 0;
        for (int evening = 0; evening < m; evening++) {
            int[] wrote = new int[size];
            int[] counts = new int[10];
            for (int i = 0; i < size; i++) {
                state = state * TIMES + PLUS;
                wrote[i] = open[(int) ((state >>> 33) % open.length)];
                counts[wrote[i]]++;
            }
            int right = 0;
            for (int i = 0; i < size; i++) {
                right += isRight(law, wrote[i], counts) ? 1 : 0;
            }
            together += isRight(law, wrote[person], counts) ? 100 / right : 0;
        }
        return together;
    }

    private static boolean isRight(int law, int number, int[] counts) {
        return law == 0 && counts[number] == number || law == 1 && counts[number] >= number
            || law == 2 && counts[number] <= number;
    }

    private static void wonByLaw() {
        for (int law = 0; law <= 2; law++) {
            RightIfAsMany x = Check.told("T" + law + "0100N0N4N7P1P1P2P5P5P5P5");
            for (int m = 1; m <= 40; m += 13) {
                for (int person = 0; person < 7; person++) {
                    long seed = 31L * m * (person + 1) << person * 7;
                    x.seed(seed);
                    String call = "won(" + person + ", " + m + ") by law " + law;
                    Check.due(call, x.won(person, m), wonSlowly(law, 7, person, m, seed));
                }
            }
        }
    }
}
