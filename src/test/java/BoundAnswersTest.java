/** The boundaries of the promises 14 to 30: each sentence has a test of its own. */
public final class BoundAnswersTest {
    private static final int UNKNOWN = -1, OUTSIDE = -2, STATE = -3, FULL = -4, NONE = -9;
    private static final String ONLY_9 = "N0N1N2N3N4N5N6N7N8";

    public static void main(String[] args) {
        Doc.open(args);
        ways();
        wrong();
        agreed();
        late();
        tenths();
        allRight();
        mean();
        forget();
        rests();
        pay();
        unpay();
        cheated();
        seed();
        won();
        keep();
        again();
        count();
        lastCall();
        Check.end();
    }

    // ---- promise 14

    private static void ways() {
        Doc.fromPromise(14);
        Doc.says("WAYS.");
        Twin.refused("ways(0) of a new object", RightIfAsMany::new, x -> x.ways(0), 1);
        Twin.refused("ways(9) of a new object", RightIfAsMany::new, x -> x.ways(9), 2272);
        // By law 2 nine that write 8 or 9 are all right, but where all write 8.
        Twin.refused("ways(9) of a full object", Twin::full, x -> x.ways(9), 511);
        Twin.refused("ways(8) of a full object", Twin::full, x -> x.ways(8), 256);
        Doc.says("OUTSIDE: n.");
        Twin.beyondByAll("ways", 0, 9, RightIfAsMany::ways, OUTSIDE);
        Doc.allIsNamed();
    }

    // ---- promise 15

    private static void wrong() {
        Doc.fromPromise(15);
        Doc.says("WRONG.");
        Twin.refused("wrong(0) of a new object", RightIfAsMany::new, x -> x.wrong(0), 0);
        Twin.refused("wrong(9) of a new object", RightIfAsMany::new, x -> x.wrong(9), 0);
        Twin.refused("wrong(8) of 9 alone", () -> Check.told("T00000" + ONLY_9), x -> x.wrong(8), 8);
        Twin.refused("wrong(9) of 9 alone", () -> Check.told("T00000" + ONLY_9), x -> x.wrong(9), 0);
        Doc.says("OUTSIDE: n.");
        Twin.beyondByAll("wrong", 0, 9, RightIfAsMany::wrong, OUTSIDE);
        Doc.allIsNamed();
    }

    // ---- promise 16

    private static void agreed() {
        Doc.fromPromise(16);
        agreedOrNoSuchRow();
        agreedUnknown();
        Doc.allIsNamed();
    }

    private static void agreedOrNoSuchRow() {
        Doc.says("What a PERSON writes as AGREED; NONE: there is no such row.");
        // The first of nine that write 8 or 9: eight of them write 8.
        Twin.refused("agreed(0) of a full object", Twin::full, x -> x.agreed(0), 8);
        Twin.refused("agreed(7) of a full object", Twin::full, x -> x.agreed(7), 8);
        Twin.refused("agreed(8) of a full object", Twin::full, x -> x.agreed(8), 9);
        Twin.refused("agreed(0) of no row", () -> Check.told("T00000N1P3"), x -> x.agreed(0), NONE);
        Twin.refused("agreed(0) of a row", () -> Check.told("T00000N2P3"), x -> x.agreed(0), 1);
        RightIfAsMany x = Check.told("T00000" + ONLY_9 + "P9P9P9P9P9P9P9P9");
        Check.due("agreed(7) of eight that have 9 alone", x.agreed(7), NONE);
        x.come(9);
        Check.due("agreed(7) of nine that have 9 alone", x.agreed(7), 9);
        Check.due("agreed(8)", x.agreed(8), 9);
        Check.due("agreed(9)", x.agreed(9), UNKNOWN);
    }

    private static void agreedUnknown() {
        Doc.says("UNKNOWN.");
        Twin.beyond("agreed", RightIfAsMany::new, 0, -1, RightIfAsMany::agreed, UNKNOWN);
        Twin.beyond("agreed", Twin::busy, 0, 3, RightIfAsMany::agreed, UNKNOWN);
        Twin.beyond("agreed", Twin::full, 0, 8, RightIfAsMany::agreed, UNKNOWN);
        Twin.beyond("agreed where there is no row", () -> Check.told("T00000N1P3"), 0, 0,
            RightIfAsMany::agreed, UNKNOWN);
    }

    // ---- promise 17

    private static void late() {
        Doc.fromPromise(17);
        lateOrNoSuchRow();
        lateFull();
        Doc.allIsNamed();
    }

    private static void lateOrNoSuchRow() {
        Doc.says("LATE; NONE: there is no row of one more in which all are RIGHT.");
        Twin.refused("late() of a new object", RightIfAsMany::new, RightIfAsMany::late, 0);
        Twin.refused("late() of 1 that is BARRED", () -> Check.told("T00000N1"), RightIfAsMany::late, NONE);
        Twin.refused("late() of all but 1 that are BARRED",
            () -> Check.told("T00000N0N2N3N4N5N6N7N8N9"), RightIfAsMany::late, 0);
        Twin.refused("late() of a second one there",
            () -> Check.told("T00000N0N2N3N4N5N6N7N8N9P1"), RightIfAsMany::late, NONE);
        Twin.refused("late() behind eight 8", () -> Check.told("T20000P8P8P8P8P8P8P8P8"), RightIfAsMany::late, 0);
    }

    private static void lateFull() {
        Doc.says("FULL: there are 9.");
        Twin.refused("late() of nine", Twin::full, RightIfAsMany::late, FULL);
        Twin.refused("late() of nine without a row", () -> {
            RightIfAsMany x = Check.told("T00000" + ONLY_9 + "P9P9P9P9P9P9P9P9");
            x.come(9);
            return x;
        }, RightIfAsMany::late, FULL);
        RightIfAsMany x = Twin.full();
        x.leave(0);
        Check.due("late() of eight", x.late(), 0);
        x.come(8);
        Check.due("late() of nine again", x.late(), FULL);
    }

    // ---- promise 18

    private static void tenths() {
        Doc.fromPromise(18);
        whatTheyWere();
        tenthsOutside();
        Doc.allIsNamed();
    }

    private static void whatTheyWere() {
        Doc.says("TENTHS of a number are t: what they were.");
        RightIfAsMany x = new RightIfAsMany();
        Check.due("tenths(0, 10)", x.tenths(0, 10), 0);
        Check.due("tenths(0, 0)", x.tenths(0, 0), 10);
        Check.due("tenths(9, 10)", x.tenths(9, 10), 0);
        Check.due("tenths(9, 10)", x.tenths(9, 10), 10);
        Check.due("tenths(1, 0)", x.tenths(1, 0), 10);
        Check.due("tenths(1, 1)", x.tenths(1, 1), 0);
        Check.due("tenths(9, 9)", x.tenths(9, 9), 10);
        Check.due("tenths(8, 0)", x.tenths(8, 0), 0);
        Check.due("ten together", x.allRight(1, false), 10);
    }

    private static void tenthsOutside() {
        Doc.says("OUTSIDE: number (0 to 9), t (0 to 10).");
        for (int t : new int[] {0, 10, 11, -1}) {
            Twin.beyondByAll("tenths(.., " + t + ")", 0, 9, (x, number) -> x.tenths(number, t), OUTSIDE);
        }
        for (int number : new int[] {0, 1, 9}) {
            Twin.beyondByAll("tenths(" + number + ", ..)", 0, 10, (x, t) -> x.tenths(number, t), OUTSIDE);
        }
    }

    // ---- promises 19 and 20

    private static RightIfAsMany elevenTenths() {
        RightIfAsMany x = Twin.busy();
        x.tenths(9, 1);
        return x;
    }

    private static RightIfAsMany noTenths() {
        RightIfAsMany x = new RightIfAsMany();
        x.tenths(1, 0);
        return x;
    }

    private static void allRight() {
        Doc.fromPromise(19);
        Doc.says("ALL RIGHT.");
        Twin.refused("allRight(0, true)", RightIfAsMany::new, x -> x.allRight(0, true), 1);
        Twin.refused("allRight(0, false)", RightIfAsMany::new, x -> x.allRight(0, false), 1);
        Twin.refused("allRight(9, true)", RightIfAsMany::new, x -> x.allRight(9, true), 0);
        Twin.refused("allRight(9, false)", RightIfAsMany::new, x -> x.allRight(9, false), 1);
        // Three of 1 and 3 by six tenths: only all of them write 3.
        Twin.refused("allRight(3, true)", Twin::busy, x -> x.allRight(3, true), 27);
        Twin.refused("allRight(3, false)", Twin::busy, x -> x.allRight(3, false), 125);
        Doc.says("OUTSIDE: n;");
        for (boolean upper : new boolean[] {true, false}) {
            Twin.beyondByAll("allRight", 0, 9, (x, n) -> x.allRight(n, upper), OUTSIDE);
            Twin.beyond("allRight of none", BoundAnswersTest::noTenths, 0, 9, (x, n) -> x.allRight(n, upper), OUTSIDE);
        }
        allRightOfMoreOrLess();
        Doc.allIsNamed();
    }

    private static void allRightOfMoreOrLess() {
        Doc.says("STATE: TENTHS are not ten together.");
        for (boolean upper : new boolean[] {true, false}) {
            for (int n = 0; n <= 9; n += 3) {
                int people = n;
                Twin.refused("allRight(" + n + ", ..) of eleven", BoundAnswersTest::elevenTenths,
                    x -> x.allRight(people, upper), STATE);
                Twin.refused("allRight(" + n + ", ..) of none", BoundAnswersTest::noTenths,
                    x -> x.allRight(people, upper), STATE);
            }
        }
    }

    private static void mean() {
        Doc.fromPromise(20);
        Doc.says("MEAN.");
        Twin.refused("mean(0, true)", RightIfAsMany::new, x -> x.mean(0, true), 0);
        Twin.refused("mean(0, false)", RightIfAsMany::new, x -> x.mean(0, false), 1);
        Twin.refused("mean(1, true)", RightIfAsMany::new, x -> x.mean(1, true), 1);
        Twin.refused("mean(9, true)", RightIfAsMany::new, x -> x.mean(9, true), 0);
        Twin.refused("mean(9, false)", RightIfAsMany::new, x -> x.mean(9, false), 1);
        // One of three writes 1 in 432 of 1000 cases, all write 3 in 216: 1080 of 1000.
        Twin.refused("mean(3, true)", Twin::busy, x -> x.mean(3, true), 27);
        Twin.refused("mean(3, false)", Twin::busy, x -> x.mean(3, false), 25);
        meanRefused();
        Doc.allIsNamed();
    }

    private static void meanRefused() {
        Doc.says("OUTSIDE; STATE.");
        for (boolean upper : new boolean[] {true, false}) {
            Twin.beyondByAll("mean", 0, 9, (x, n) -> x.mean(n, upper), OUTSIDE);
            Twin.beyond("mean of none", BoundAnswersTest::noTenths, 0, 9, (x, n) -> x.mean(n, upper), OUTSIDE);
            for (int n = 0; n <= 9; n += 3) {
                int people = n;
                Twin.refused("mean(" + n + ", ..) of eleven", BoundAnswersTest::elevenTenths,
                    x -> x.mean(people, upper), STATE);
                Twin.refused("mean(" + n + ", ..) of none", BoundAnswersTest::noTenths,
                    x -> x.mean(people, upper), STATE);
            }
        }
    }

    // ---- promise 21

    private static void forget() {
        Doc.fromPromise(21);
        Doc.says("FORGETTING.");
        Twin.refused("forget(0, 0, true)", Twin::busy, x -> x.forget(0, 0, true), 1);
        Twin.refused("forget(0, 10, true)", Twin::busy, x -> x.forget(0, 10, true), 0);
        Twin.refused("forget(0, 10, false)", Twin::busy, x -> x.forget(0, 10, false), 1);
        Twin.refused("forget(2, 1, true)", Twin::busy, x -> x.forget(2, 1, true), 81);
        Twin.refused("forget(2, 9, false)", Twin::busy, x -> x.forget(2, 9, false), 100);
        // Each writes what it wrote or nothing, so that TENTHS do not count.
        Twin.refused("forget(0, 1, true) where TENTHS are eleven", BoundAnswersTest::elevenTenths,
            x -> x.forget(0, 1, true), 9);
        forgetUnknown();
        Doc.says("OUTSIDE: x.");
        for (boolean upper : new boolean[] {true, false}) {
            Twin.beyond("forget(0, ..)", Twin::busy, 0, 10, (y, x) -> y.forget(0, x, upper), OUTSIDE);
            Twin.beyond("forget(8, ..)", Twin::full, 0, 10, (y, x) -> y.forget(8, x, upper), OUTSIDE);
        }
        Doc.allIsNamed();
    }

    private static void forgetUnknown() {
        Doc.says("UNKNOWN;");
        for (int tenths : new int[] {0, 10, 11, -1}) {
            Twin.beyond("forget", RightIfAsMany::new, 0, -1, (x, person) -> x.forget(person, tenths, true), UNKNOWN);
            Twin.beyond("forget", Twin::busy, 0, 3, (x, person) -> x.forget(person, tenths, false), UNKNOWN);
            Twin.beyond("forget", Twin::full, 0, 8, (x, person) -> x.forget(person, tenths, true), UNKNOWN);
        }
    }

    // ---- promise 22

    private static void rests() {
        Doc.fromPromise(22);
        Doc.says("RESTS.");
        Twin.refused("rests(0)", RightIfAsMany::new, x -> x.rests(0), 1);
        Twin.refused("rests(4)", RightIfAsMany::new, x -> x.rests(4), 10000);
        Twin.refused("rests(0) of a full object", Twin::full, x -> x.rests(0), 1);
        // By law 2 four that write 8 or 9 are all right and get alike.
        Twin.refused("rests(4) of a full object", Twin::full, x -> x.rests(4), 16);
        Doc.says("OUTSIDE: n.");
        Twin.beyondByAll("rests", 0, 4, RightIfAsMany::rests, OUTSIDE);
        Doc.allIsNamed();
    }

    // ---- promise 23

    private static void pay() {
        Doc.fromPromise(23);
        howManyArePaid();
        payOutside();
        payFull();
        Doc.allIsNamed();
    }

    private static void howManyArePaid() {
        Doc.says("PAID: how many there are.");
        RightIfAsMany x = new RightIfAsMany();
        Check.due("pay(0, 0)", x.pay(0, 0), 1);
        Check.due("pay(8, 999)", x.pay(8, 999), 2);
        Check.due("pay(8, 0)", x.pay(8, 0), 3);
        Check.due("pay(0, 999)", x.pay(0, 999), 4);
        Check.due("count(5)", x.count(5), 4);
        Check.tell(x, "T00999P1");
        Check.due("999 are due, and PAID", x.cheated(), NONE);
        Check.due("pay(0, 998)", x.pay(0, 998), 5);
        Check.due("998 are not", x.cheated(), 0);
    }

    private static void payOutside() {
        Doc.says("OUTSIDE: person (0 to 8), amount (0 to 999);");
        for (int amount : new int[] {0, 999, 1000, -1}) {
            Twin.beyondByAll("pay(.., " + amount + ")", 0, 8, (x, person) -> x.pay(person, amount), OUTSIDE);
        }
        for (int person : new int[] {0, 8}) {
            Twin.beyondByAll("pay(" + person + ", ..)", 0, 999, (x, amount) -> x.pay(person, amount), OUTSIDE);
        }
    }

    private static void payFull() {
        Doc.says("FULL: 12.");
        for (int person = 0; person <= 8; person++) {
            int paid = person;
            Twin.refused("pay(" + person + ", 0), the 13th", Twin::full, x -> x.pay(paid, 0), FULL);
            Twin.refused("pay(" + person + ", 999), the 13th", Twin::full, x -> x.pay(paid, 999), FULL);
        }
        RightIfAsMany x = Twin.full();
        // All get 111 by nine of them, and were PAID so.
        Check.due("cheated()", x.cheated(), NONE);
        Check.due("pay(0, 5), the 13th", x.pay(0, 5), FULL);
        Check.due("cheated()", x.cheated(), NONE);
        Check.due("unpay()", x.unpay(), 12);
        Check.due("pay(0, 5)", x.pay(0, 5), 1);
        Check.due("cheated()", x.cheated(), 0);
    }

    // ---- promise 24

    private static void unpay() {
        Doc.fromPromise(24);
        Doc.says("Nothing is PAID: how many there were.");
        RightIfAsMany x = Twin.full();
        Check.due("unpay() of twelve", x.unpay(), 12);
        Check.due("count(5)", x.count(5), 0);
        Check.due("unpay() of none", x.unpay(), 0);
        x.pay(3, 0);
        Check.due("cheated()", x.cheated(), 3);
        Check.due("unpay() of one", x.unpay(), 1);
        Check.due("cheated()", x.cheated(), NONE);
        Twin.refused("unpay() of a new object", RightIfAsMany::new, RightIfAsMany::unpay, 0);
        Doc.allIsNamed();
    }

    // ---- promise 25

    private static void cheated() {
        Doc.fromPromise(25);
        Doc.says("CHEATED; NONE.");
        Twin.refused("cheated() of a new object", RightIfAsMany::new, RightIfAsMany::cheated, NONE);
        Twin.refused("cheated() of a full object", Twin::full, RightIfAsMany::cheated, NONE);
        Twin.refused("cheated() of a busy object", Twin::busy, RightIfAsMany::cheated, 2);
        for (int person = 0; person <= 8; person++) {
            RightIfAsMany x = Check.told("T00009P9P9P9P9P9P9P9P9P9");
            x.pay(person, 1);
            Check.due("PAID 1 of 1", x.cheated(), NONE);
            x.pay(person, 0);
            Check.due("PAID 0 of 1", x.cheated(), person);
            x.pay(person, 2);
            Check.due("PAID 2 of 1", x.cheated(), person);
            x.pay(8 - person, 2);
            Check.due("the least of two", x.cheated(), Math.min(person, 8 - person));
            for (int left = 8; left >= 0; left--) {
                x.leave(left);
            }
            Check.due("nobody is there", x.cheated(), NONE);
        }
        Doc.allIsNamed();
    }

    // ---- promise 26

    private static void seed() {
        Doc.fromPromise(26);
        Doc.says("THE SEED is v: what it was.");
        RightIfAsMany x = new RightIfAsMany();
        long was = 0;
        long[] seeds = {Long.MAX_VALUE, Long.MIN_VALUE, -1, 1, 1L << 32, -9, -4, Integer.MAX_VALUE + 1L, 0};
        for (long seed : seeds) {
            Check.due("seed(" + seed + ")", x.seed(seed), was);
            was = seed;
        }
        Check.due("seed(0)", x.seed(0), 0);
        Doc.allIsNamed();
    }

    // ---- promise 27

    private static void won() {
        Doc.fromPromise(27);
        Doc.says("WON.");
        RightIfAsMany x = Check.told("T00999" + ONLY_9 + "P9P9P9P9P9P9P9P9");
        Check.due("eight that can write 9 alone: won(7, 40)", x.won(7, 40), 0);
        x.come(9);
        Check.due("nine of them: won(8, 40)", x.won(8, 40), 4440);
        Check.due("nine of them: won(0, 1)", x.won(0, 1), 111);
        wonUnknown();
        Doc.says("OUTSIDE: m.");
        Twin.beyond("won(0, ..)", Twin::busy, 1, 40, (y, m) -> y.won(0, m), OUTSIDE);
        Twin.beyond("won(8, ..)", Twin::full, 1, 40, (y, m) -> y.won(8, m), OUTSIDE);
        Doc.allIsNamed();
    }

    private static void wonUnknown() {
        Doc.says("UNKNOWN;");
        for (int m : new int[] {0, 1, 40, 41}) {
            Twin.beyond("won", RightIfAsMany::new, 0, -1, (x, person) -> x.won(person, m), UNKNOWN);
            Twin.beyond("won", Twin::busy, 0, 3, (x, person) -> x.won(person, m), UNKNOWN);
            Twin.beyond("won", Twin::full, 0, 8, (x, person) -> x.won(person, m), UNKNOWN);
        }
    }

    // ---- promise 28

    private static void keep() {
        Doc.fromPromise(28);
        Doc.says("They are kept: how many PEOPLE.");
        RightIfAsMany x = Twin.full();
        Check.due("keep(0) of nine", x.keep(0), 9);
        Check.due("ACTS stay", x.count(4), 16);
        for (int left = 8; left >= 0; left--) {
            x.leave(0);
            Check.due("keep(1) of " + left, x.keep(1), left);
        }
        x.come(8);
        Check.due("again(1)", x.again(1), 0);
        Check.due("again(0)", x.again(0), 9);
        Check.due("keep(0) of a new object", new RightIfAsMany().keep(0), 0);
        Doc.says("UNKNOWN.");
        Twin.beyondByAll("keep", 0, 1, RightIfAsMany::keep, UNKNOWN);
        Doc.allIsNamed();
    }

    // ---- promise 29

    private static void again() {
        Doc.fromPromise(29);
        asTheyWereKept();
        Doc.says("UNKNOWN;");
        Twin.beyondByAll("again", 0, 1, RightIfAsMany::again, UNKNOWN);
        againOfNone();
        Doc.allIsNamed();
    }

    private static void asTheyWereKept() {
        Doc.says("They are as they were kept: how many PEOPLE.");
        RightIfAsMany x = Twin.busy();
        Check.due("again(1)", x.again(1), 5);
        Check.duePeople("again(1)", x, "52236");
        Check.due("ACTS", x.count(4), 0);
        Check.due("again(0)", x.again(0), 4);
        Check.duePeople("again(0)", x, "5223");
        x.slip(0, 1);
        Check.due("again(0) once more", x.again(0), 4);
        Check.duePeople("what is kept stays as it was", x, "5223");
        RightIfAsMany nobody = new RightIfAsMany();
        nobody.keep(1);
        nobody.come(3);
        Check.due("again(1) of nobody", nobody.again(1), 0);
        Check.due("nobody is there", nobody.count(1), 0);
    }

    private static void againOfNone() {
        Doc.says("STATE: none were kept.");
        for (int slot = 0; slot <= 1; slot++) {
            int asked = slot;
            Twin.refused("again(" + slot + ") of a new object", RightIfAsMany::new, x -> x.again(asked), STATE);
            Twin.refused("again(" + slot + ") where the other was kept", () -> {
                RightIfAsMany x = Check.told("T00100P1P2");
                x.slip(0, 4);
                x.keep(1 - asked);
                x.slip(1, 4);
                return x;
            }, x -> x.again(asked), STATE);
            Twin.refused("again(" + slot + ") behind table()", () -> {
                RightIfAsMany x = Twin.busy();
                x.table();
                x.come(1);
                return x;
            }, x -> x.again(asked), STATE);
        }
    }

    // ---- promise 30

    private static void dueCounts(String what, RightIfAsMany x, int... want) {
        for (int i = 0; i < want.length; i++) {
            Check.due(what + ": count(" + i + ")", x.count(i), want[i]);
        }
    }

    private static void count() {
        Doc.fromPromise(30);
        Doc.says("0 bytes of THE TEXT, 1 PEOPLE, 2 who is RIGHT (bits), 3 numbers that are BARRED (bits), "
            + "4 ACTS in the row, 5 PAID, 6 POT, 7 the LAW, 8 SHARE, 9 what is left of POT.");
        dueCounts("nothing", new RightIfAsMany(), 0, 0, 0, 0, 0, 0, 0, 0, 0, 0);
        dueCounts("busy", Twin.busy(), 12, 4, 7, 144, 7, 4, 137, 0, 1, 2);
        dueCounts("full", Twin.full(), 40, 9, 511, 255, 16, 12, 999, 2, 0, 0);
        dueCounts("nine barred", Check.told("T10999N1N2N3N4N5N6N7N8N9P0"), 26, 1, 1, 1022, 0, 0, 999, 1, 0, 0);
        dueCounts("the last one alone", Check.told("T00998P0P0P0P0P0P0P0P0P1"), 24, 9, 256, 0, 0, 0, 998, 0, 0, 0);
        dueCounts("nobody", Check.told("T21999N9"), 8, 0, 0, 512, 0, 0, 999, 2, 1, 999);
        dueCounts("none gets a whole", Check.told("T00008P9P9P9P9P9P9P9P9P9"), 24, 9, 511, 0, 0, 0, 8, 0, 0, 8);
        Doc.says("OUTSIDE.");
        Twin.beyondByAll("count", 0, 9, RightIfAsMany::count, OUTSIDE);
        Doc.allIsNamed();
    }

    // ---- the object

    private static void lastCall() {
        Doc.from("An object is used for at most 512 calls", "## The public face");
        Doc.says("An object is used for at most 512 calls after it has been made; what later calls answer is free.");
        RightIfAsMany x = new RightIfAsMany();
        for (int call = 1; call <= 511; call++) {
            Check.due("call " + call, call % 2 == 1 ? x.come(call % 10) : x.leave(0), call % 2 == 1 ? 0 : (call - 1) % 10);
        }
        Check.due("call 512", x.count(4), 16);
        RightIfAsMany y = new RightIfAsMany();
        y.come(1);
        for (int call = 2; call <= 511; call++) {
            y.won(0, 40);
        }
        long steps = 0;
        for (int step = 0; step < 510 * 40; step++) {
            steps = steps * 6364136223846793005L + 1442695040888963407L;
        }
        Check.due("call 512", y.seed(0), steps);
        Doc.allIsNamed();
    }
}
