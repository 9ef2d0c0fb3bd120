/** The boundaries of 'Terms', part 2: each sentence has a test of its own. */
public final class BoundRowsTest {
    private static final int UNKNOWN = -1, OUTSIDE = -2, STATE = -3, FULL = -4, NONE = -9;
    private static final String ONLY_0 = "N1N2N3N4N5N6N7N8N9";
    private static final String ONLY_8 = "N0N1N2N3N4N5N6N7N9";
    private static final String ONLY_9 = "N0N1N2N3N4N5N6N7N8";

    public static void main(String[] args) {
        Doc.open(args);
        Doc.from("==== 2 WAYS", "==== 3");
        waysFromNobodyToNine();
        waysOfNumbersThatAreNotBarred();
        oneWayOfNobody();
        fewestWrong();
        agreedByAsManyAsThereAre();
        agreedIsTheFirst();
        late();
        lateOfNoRow();
        tenthsFromNoneToTen();
        tenthsAtFirst();
        tenthsOfBarredOnes();
        tenTogether();
        allRightFromNobodyToNine();
        meanFromNobodyToNine();
        Doc.allIsNamed();
        Check.end();
    }

    private static void dueWays(String table, int... want) {
        RightIfAsMany x = Check.told(table);
        for (int n = 0; n < want.length; n++) {
            Check.due(table + ": ways(" + n + ")", x.ways(n), want[n]);
        }
    }

    private static void dueWrong(String table, int... want) {
        RightIfAsMany x = Check.told(table);
        for (int n = 0; n < want.length; n++) {
            Check.due(table + ": wrong(" + n + ")", x.wrong(n), want[n]);
        }
    }

    /** What each writes as agreed; behind them there is nobody. */
    private static void dueAgreed(String table, int... want) {
        RightIfAsMany x = Check.told(table);
        for (int person = 0; person < want.length; person++) {
            Check.due(table + ": agreed(" + person + ")", x.agreed(person), want[person]);
        }
        Check.due(table + ": agreed(" + want.length + ")", x.agreed(want.length), UNKNOWN);
    }

    private static void dueLate(String table, int want) {
        Check.due(table + ": late()", Check.told(table).late(), want);
    }

    private static String people(int many, int d) {
        return ("P" + d).repeat(many);
    }

    private static void waysFromNobodyToNine() {
        Doc.says("==== 2 WAYS of n (0 to 9) PEOPLE: in how many rows of n numbers");
        dueWays("T00000", 1, 1, 1, 4, 5, 16, 82, 169, 541, 2272);
        dueWays("T00000P5P5", 1, 1, 1, 4);
        Twin.beyondByAll("ways", 0, 9, RightIfAsMany::ways, OUTSIDE);
        // 0 and 1 are always right by law 1: the largest numbers of ways are told in whole.
        dueWays("T10000N2N3N4N5N6N7N8N9", 1, 2, 4, 8, 16, 32, 64, 128, 256, 512);
    }

    private static void waysOfNumbersThatAreNotBarred() {
        Doc.says("that are not BARRED all are RIGHT");
        dueWays("T00000" + ONLY_0, 1, 0, 0, 0, 0, 0, 0, 0, 0, 0);
        dueWays("T00000" + ONLY_8, 1, 0, 0, 0, 0, 0, 0, 0, 1, 0);
        dueWays("T00000" + ONLY_9, 1, 0, 0, 0, 0, 0, 0, 0, 0, 1);
        dueWays("T10000" + ONLY_0, 1, 1, 1, 1, 1, 1, 1, 1, 1, 1);
        dueWays("T10000" + ONLY_8, 1, 0, 0, 0, 0, 0, 0, 0, 1, 1);
        dueWays("T10000" + ONLY_9, 1, 0, 0, 0, 0, 0, 0, 0, 0, 1);
        dueWays("T20000" + ONLY_0, 1, 0, 0, 0, 0, 0, 0, 0, 0, 0);
        dueWays("T20000" + ONLY_8, 1, 1, 1, 1, 1, 1, 1, 1, 1, 0);
        dueWays("T20000" + ONLY_9, 1, 1, 1, 1, 1, 1, 1, 1, 1, 1);
        dueWays("T00000N1", 1, 0, 1, 1, 1, 11);
        dueWays("T00000N9", 1, 1, 1, 4, 5, 16, 82, 169, 541, 2271);
        dueWays("T00000N0", 1, 1, 1, 4, 5, 16, 82, 169, 541, 2272);
    }

    private static void oneWayOfNobody() {
        Doc.says("(one of nobody).");
        Check.due("ways(0) of a new object", new RightIfAsMany().ways(0), 1);
        for (int law = 0; law <= 2; law++) {
            for (String parts : new String[] {"", "N0", "N1", "P5P5", ONLY_0, ONLY_9, people(9, 1)}) {
                dueWays("T" + law + "0999" + parts, 1);
            }
        }
        dueWays("T00000N1", 1, 0);
        dueWays("T00000", 1, 1);
    }

    private static void fewestWrong() {
        Doc.says("WRONG of n: the fewest that are not RIGHT in any such row.");
        dueWrong("T00000", 0, 0, 0, 0, 0, 0, 0, 0, 0, 0);
        dueWrong("T00000" + ONLY_0, 0, 1, 2, 3, 4, 5, 6, 7, 8, 9);
        dueWrong("T00000" + ONLY_8, 0, 1, 2, 3, 4, 5, 6, 7, 0, 9);
        dueWrong("T00000" + ONLY_9, 0, 1, 2, 3, 4, 5, 6, 7, 8, 0);
        dueWrong("T10000" + ONLY_0, 0, 0, 0, 0, 0, 0, 0, 0, 0, 0);
        dueWrong("T10000" + ONLY_9, 0, 1, 2, 3, 4, 5, 6, 7, 8, 0);
        dueWrong("T20000" + ONLY_8, 0, 0, 0, 0, 0, 0, 0, 0, 0, 9);
        dueWrong("T20000" + ONLY_9, 0, 0, 0, 0, 0, 0, 0, 0, 0, 0);
        dueWrong("T00000N1", 0, 1, 0);
        // 0 and 1 alone: one is right with 1, all others are wrong with 0.
        dueWrong("T00000N2N3N4N5N6N7N8N9", 0, 0, 1, 2, 3, 4, 5, 6, 7, 8);
        Twin.beyondByAll("wrong", 0, 9, RightIfAsMany::wrong, OUTSIDE);
    }

    private static void agreedByAsManyAsThereAre() {
        Doc.says("AGREED: of rows of as many PEOPLE as there are, in which all are RIGHT,");
        dueAgreed("T00000");
        dueAgreed("T00000P9", 1);
        dueAgreed("T00000N1P9", NONE);
        dueAgreed("T00000" + ONLY_9 + people(8, 9), NONE, NONE, NONE, NONE, NONE, NONE, NONE, NONE);
        // No text is long enough for nine barred and nine people: the ninth comes.
        RightIfAsMany nine = Check.told("T00000" + ONLY_9 + people(8, 9));
        Check.due("come(9)", nine.come(9), 8);
        for (int person = 0; person <= 9; person++) {
            Check.due("agreed(" + person + ") of nine", nine.agreed(person), person < 9 ? 9 : UNKNOWN);
        }
        dueAgreed("T00000" + people(9, 0), 1, 2, 2, 6, 6, 6, 6, 6, 6);
        RightIfAsMany x = Check.told("T00000P5P5");
        Check.due("agreed(1) of two", x.agreed(1), 2);
        x.come(5);
        Check.due("agreed(0) of three", x.agreed(0), 1);
        Check.due("agreed(2) of three", x.agreed(2), 2);
        x.leave(0);
        x.leave(0);
        Check.due("agreed(0) of one", x.agreed(0), 1);
        Check.due("agreed(1) of one", x.agreed(1), UNKNOWN);
    }

    private static void agreedIsTheFirst() {
        Doc.says("the first (by what PERSON 0 writes, then PERSON 1, ..).");
        // Rows of three are 122, 212, 221 and 333; of four 1333 in four orders and 4444.
        dueAgreed("T00000P3P3P3", 1, 2, 2);
        dueAgreed("T00000P4P4P4P4", 1, 3, 3, 3);
        dueAgreed("T00000N1P3P3P3", 3, 3, 3);
        dueAgreed("T00000N2P3P3P3", 3, 3, 3);
        dueAgreed("T10000P3P3P3", 0, 0, 0);
        dueAgreed("T10000N0P3P3P3", 1, 1, 1);
        dueAgreed("T20000P3P3P3", 1, 2, 2);
        dueAgreed("T20000N1P3P3P3", 2, 2, 3);
        dueAgreed("T20000" + ONLY_9 + "P9P9", 9, 9);
    }

    private static void late() {
        Doc.says("LATE: one more comes and writes any number, others write anew: "
            + "the fewest that must, so that all are RIGHT;");
        dueLate("T00000", 0);
        dueLate("T00000P2", 0);
        dueLate("T00000P1", 1);
        dueLate("T00000" + people(8, 9), 0);
        dueLate("T00000" + people(8, 8), 0);
        dueLate("T00000" + people(8, 1), 7);
        dueLate("T00000" + people(8, 0), 8);
        dueLate("T00000" + people(9, 9), FULL);
        dueLate("T10000" + people(8, 9), 0);
        dueLate("T10000" + people(7, 9), 7);
        dueLate("T10000" + people(8, 0), 0);
        dueLate("T20000" + people(8, 9), 0);
        dueLate("T20000" + people(8, 8), 0);
        dueLate("T20000" + people(8, 7), 1);
    }

    private static void lateOfNoRow() {
        Doc.says("NONE.");
        dueLate("T00000N1", NONE);
        dueLate("T00000N1P9", 1);
        dueLate("T00000" + ONLY_9 + people(7, 9), NONE);
        dueLate("T00000" + ONLY_9 + people(8, 9), 0);
        dueLate("T00000" + ONLY_8 + people(6, 8), NONE);
        dueLate("T00000" + ONLY_8 + people(7, 8), 0);
        dueLate("T00000" + ONLY_8 + people(8, 8), NONE);
        dueLate("T20000" + ONLY_8 + people(7, 8), 0);
        dueLate("T20000" + ONLY_8 + people(8, 8), NONE);
        dueLate("T20000" + ONLY_0, NONE);
        dueLate("T10000" + ONLY_0, 0);
    }

    private static void tenthsFromNoneToTen() {
        Doc.says("TENTHS: each writes each number by some tenths (0 to 10;");
        for (int number = 0; number <= 9; number++) {
            RightIfAsMany x = new RightIfAsMany();
            x.tenths(number, 0);
            int of = number;
            for (int t = 0; t <= 10; t++) {
                Check.due("tenths(" + number + ", " + t + ")", x.tenths(number, t), Math.max(0, t - 1));
            }
            Check.due("tenths(" + number + ", 11)", x.tenths(number, 11), OUTSIDE);
            Check.due("tenths(" + number + ", 0)", x.tenths(number, 0), 10);
            Twin.beyond("tenths(" + number + ", ..)", Twin::busy, 0, 10, (y, t) -> y.tenths(of, t), OUTSIDE);
        }
    }

    private static void tenthsAtFirst() {
        Doc.says("10 of number 1 and 0 of others at first),");
        RightIfAsMany x = new RightIfAsMany();
        for (int number = 0; number <= 9; number++) {
            Check.due("tenths(" + number + ", 3)", x.tenths(number, 3), number == 1 ? 10 : 0);
        }
        Check.due("ten together at first", new RightIfAsMany().allRight(1, true), 1);
    }

    private static void tenthsOfBarredOnes() {
        Doc.says("whether it is BARRED or not;");
        RightIfAsMany x = Check.told("T00000N1N2");
        Check.due("all write 1 that is BARRED, above", x.allRight(1, true), 1);
        Check.due("all write 1 that is BARRED, below", x.allRight(1, false), 1);
        Check.due("one in the mean, above", x.mean(1, true), 1);
        Check.due("tenths(2, 10)", x.tenths(2, 10), 0);
        Check.due("tenths(1, 0)", x.tenths(1, 0), 10);
        Check.due("both write 2 that is BARRED", x.allRight(2, true), 1);
        Check.due("both in the mean", x.mean(2, true), 2);
        RightIfAsMany all = Check.told("T20000" + ONLY_0);
        all.tenths(1, 0);
        all.tenths(9, 10);
        Check.due("nine write 9 that is BARRED", all.mean(9, true), 9);
    }

    private static void tenTogether() {
        Doc.says("they must be ten together (else STATE).");
        RightIfAsMany x = Check.told("T10000");
        for (int t = 0; t <= 10; t++) {
            x.tenths(0, t);
            for (int other = 0; other <= 10; other++) {
                x.tenths(1, other);
                boolean whole = t + other == 10;
                Check.due(t + " and " + other + ": allRight(1, false)", x.allRight(1, false), whole ? 1 : STATE);
                Check.due(t + " and " + other + ": mean(0, true)", x.mean(0, true), whole ? 0 : STATE);
            }
            if (t % 3 == 2) {
                // No object is used for more than 512 calls.
                x = Check.told("T10000");
            }
        }
        RightIfAsMany most = Check.told("T10000");
        for (int number = 0; number <= 9; number++) {
            most.tenths(number, 10);
        }
        Check.due("a hundred together", most.allRight(1, true), STATE);
        for (int number = 0; number <= 9; number++) {
            most.tenths(number, 1);
        }
        Check.due("one of each", most.allRight(1, true), 1);
        Check.due("of ten numbers 0 and 1 are right", most.allRight(1, false), 5);
        for (int number = 0; number <= 9; number++) {
            most.tenths(number, 0);
        }
        Check.due("none together", most.allRight(0, true), STATE);
        Check.due("none together", most.mean(0, false), STATE);
    }

    private static void dueChances(String table, int number, int n, int allRight, int mean) {
        RightIfAsMany x = Check.told(table);
        x.tenths(1, 0);
        x.tenths(number, 10);
        String all = table + ", all write " + number + ": ";
        Check.due(all + "allRight(" + n + ", true)", x.allRight(n, true), allRight);
        Check.due(all + "allRight(" + n + ", false)", x.allRight(n, false), 1);
        Check.due(all + "mean(" + n + ", true)", x.mean(n, true), mean);
        Check.due(all + "mean(" + n + ", false)", x.mean(n, false), 1);
    }

    private static void allRightFromNobodyToNine() {
        Doc.says("ALL RIGHT of n (0 to 9): the chance.");
        dueChances("T00000", 9, 9, 1, 9);
        dueChances("T00000", 9, 8, 0, 0);
        dueChances("T00000", 8, 9, 0, 0);
        dueChances("T00000", 0, 0, 1, 0);
        dueChances("T00000", 0, 1, 0, 0);
        dueChances("T10000", 9, 8, 0, 0);
        dueChances("T10000", 9, 9, 1, 9);
        dueChances("T10000", 0, 9, 1, 9);
        dueChances("T20000", 8, 8, 1, 8);
        dueChances("T20000", 8, 9, 0, 0);
        dueChances("T20000", 0, 0, 1, 0);
        dueChances("T20000", 0, 1, 0, 0);
        for (boolean upper : new boolean[] {true, false}) {
            Twin.beyondByAll("allRight", 0, 9, (x, n) -> x.allRight(n, upper), OUTSIDE);
        }
        RightIfAsMany x = new RightIfAsMany();
        x.tenths(1, 9);
        x.tenths(9, 1);
        Check.due("one of a thousand millions, above", x.allRight(9, true), 1);
        Check.due("one of a thousand millions, below", x.allRight(9, false), 1000000000);
    }

    private static void meanFromNobodyToNine() {
        Doc.says("MEAN of n: how many are RIGHT in the mean.");
        for (boolean upper : new boolean[] {true, false}) {
            Twin.beyondByAll("mean", 0, 9, (x, n) -> x.mean(n, upper), OUTSIDE);
        }
        RightIfAsMany x = new RightIfAsMany();
        Check.due("mean(0, true)", x.mean(0, true), 0);
        Check.due("mean(0, false)", x.mean(0, false), 1);
        x.tenths(1, 5);
        x.tenths(0, 5);
        // One of two writes 1 in two of four cases.
        Check.due("mean(2, true)", x.mean(2, true), 1);
        Check.due("mean(2, false)", x.mean(2, false), 2);
        // One of nine writes 1 in nine of 512 cases.
        Check.due("mean(9, true)", x.mean(9, true), 9);
        Check.due("mean(9, false)", x.mean(9, false), 512);
        Check.due("mean(8, true)", x.mean(8, true), 1);
        Check.due("mean(8, false)", x.mean(8, false), 32);
    }
}
