/** The boundaries of 'Terms', part 3: each sentence has a test of its own. */
public final class BoundMovesTest {
    private static final int UNKNOWN = -1, OUTSIDE = -2, STATE = -3, FULL = -4, NONE = -9;
    private static final long TIMES = 6364136223846793005L, PLUS = 1442695040888963407L;
    private static final String ONLY_0 = "N1N2N3N4N5N6N7N8N9";
    private static final String ONLY_9 = "N0N1N2N3N4N5N6N7N8";
    private static final String ONLY_0_AND_1 = "N2N3N4N5N6N7N8N9";
    private static final String ONLY_1_AND_3 = "N0N2N4N5N6N7N8N9";

    public static void main(String[] args) {
        Doc.open(args);
        Doc.from("==== 3 A ROUND", "Ahead of the calls `write`");
        rounds();
        rests();
        payments();
        evenings();
        slots();
        Doc.allIsNamed();
        Check.end();
    }

    private static void rounds() {
        allThatAreNotRightAtOnce();
        byWhatOthersWrote();
        theLeastThatIsNotBarred();
        whoFindsNoneStays();
        settledFromNoneToSixty();
        neverSettled();
    }

    private static void rests() {
        wantsMost();
        wantsOfLikeOnes();
        atRest();
        restsFromNobodyToFour();
        forgettingFromNoneToTen();
    }

    private static void payments() {
        paidPeople();
        twelvePaid();
        theLastOneCounts();
        cheated();
    }

    private static void evenings() {
        theSeedAtFirst();
        theSeedWraps();
        theUpperBits();
        wonFromOneToForty();
        nothingChangesButTheSeed();
    }

    private static void dueRound(String table, int want, String people) {
        RightIfAsMany x = Check.told(table);
        Check.due(table + ": round()", x.round(), want);
        Check.duePeople(table + ": round()", x, people);
    }

    private static void dueSettled(String table, int want) {
        RightIfAsMany x = Check.told(table);
        Check.due(table + ": settled()", x.settled(), want);
        int changed = 0;
        for (int round = 0; round < 61; round++) {
            changed += x.round() > 0 ? 1 : 0;
        }
        Check.due(table + ": so many ROUNDS change something", changed, want == NONE ? 61 : want);
    }

    private static void dueWanted(String table, int... want) {
        RightIfAsMany x = Check.told(table);
        for (int person = 0; person < want.length; person++) {
            Check.due(table + ": person(" + person + ", 3)", x.person(person, 3), want[person]);
        }
    }

    // ---- rounds

    private static void allThatAreNotRightAtOnce() {
        Doc.says("==== 3 A ROUND: all that are not RIGHT, at once,");
        dueRound("T00000", 0, "");
        dueRound("T00000P1", 0, "1");
        dueRound("T00000P0", 1, "1");
        // Both find 1 free, and both take it.
        dueRound("T00000P0P0", 2, "11");
        dueRound("T00000P0P0P0P0P0P0P0P0P0", 9, "111111111");
        dueRound("T00000P9P9P9P9P9P9P9P9P9", 0, "999999999");
        dueRound("T00000P1P0P2", 1, "122");
    }

    private static void byWhatOthersWrote() {
        Doc.says("each looks at what all others wrote,");
        // What it wrote itself does not help it to be the second one, and is away when it goes.
        dueRound("T00000N1P2", 0, "2");
        dueRound("T00000N1P2P2", 0, "22");
        dueRound("T00000N1P2P2P3", 0, "223");
        dueRound("T00000N1P2P3P3", 3, "322");
    }

    private static void theLeastThatIsNotBarred() {
        Doc.says("and writes the least number that is not BARRED by which it would be RIGHT if these stay;");
        dueRound("T10000P9", 1, "0");
        dueRound("T10000N0P9", 1, "1");
        dueRound("T20000P0", 1, "1");
        dueRound("T20000N1P0", 1, "2");
        dueRound("T20000N1N2N3N4N5N6N7N8P0", 1, "9");
        dueRound("T20000N2P1P1", 2, "33");
    }

    private static void whoFindsNoneStays() {
        Doc.says("if there is none, it stays.");
        dueRound("T10000N0N1P9", 0, "9");
        dueRound("T10000N0P9", 1, "1");
        dueRound("T00000" + ONLY_0 + "P0", 0, "0");
        dueRound("T20000" + ONLY_0 + "P0P0", 0, "00");
        dueRound("T00000" + ONLY_9 + "P9P9P9P9P9P9P9P9", 0, "99999999");
        // The second one finds 2, the first one nothing.
        dueRound("T00000N1P2P3", 1, "22");
    }

    private static void settledFromNoneToSixty() {
        Doc.says("SETTLED: behind how many ROUNDS the next one changes nothing (0 to 60);");
        dueSettled("T00000", 0);
        dueSettled("T00000P1", 0);
        dueSettled("T00000P0", 1);
        dueSettled("T00000P3P3P1P1", 2);
        dueSettled("T10000N0N1P9", 0);
        dueSettled("T10000P9P9P9P9P9P9P9P9", 1);
        dueSettled("T20000" + ONLY_1_AND_3 + "P1P1P1", 1);
    }

    private static void neverSettled() {
        Doc.says("NONE: it is more.");
        dueSettled("T20000" + ONLY_1_AND_3 + "P1P1P1P1", NONE);
        dueSettled("T20000" + ONLY_1_AND_3 + "P3P3P3P3", NONE);
        dueSettled("T20000" + ONLY_1_AND_3 + "P1P3P3P3", 0);
    }

    // ---- what one wants, and rests

    private static void wantsMost() {
        Doc.says("One WANTS to write the number that is not BARRED by which it would get most, if all others stay;");
        dueWanted("T00100P5", 1);
        dueWanted("T00100N1P5", 5);
        dueWanted("T21100P1P9", 9, 9);
        dueWanted("T21100N9P1P8", 8, 8);
        // The second 9 by law 2 gets 999 times 9 by 18, cut; 8 gets less.
        dueWanted("T21999P8P9", 9, 9);
        dueWanted("T01100P1P2", 1, 2);
        // Whoever goes from 2 to 1 leaves the other one wrong, and has all for itself.
        dueWanted("T00100P2P2", 1, 1);
        dueWanted("T00100N1P2P2", 2, 2);
        dueWanted("T01100P3P3P2", 1, 1, 1);
        // The third 2 gets a third; whoever goes from two of them has 1, and all, for itself.
        dueWanted("T11100P0P2P2", 2, 1, 1);
        dueWanted("T10100P2P2P2", 2, 2, 2);
    }

    private static void wantsOfLikeOnes() {
        Doc.says("of like ones what it wrote, else the least.");
        dueWanted("T00000P5", 5);
        dueWanted("T00000P0P9", 0, 9);
        dueWanted("T20100P5", 5);
        dueWanted("T20100P9", 9);
        dueWanted("T20100P0", 1);
        dueWanted("T20100N1P0", 2);
        dueWanted("T10100P9", 0);
        dueWanted("T10100P1", 1);
        // One by nine is cut to nothing, so all are like.
        dueWanted("T10001P9P0P0P0P0P0P0P0P0", 9, 0);
        dueWanted("T10009P9P0P0P0P0P0P0P0P0", 0, 0);
        dueWanted("T10008P9P0P0P0P0P0P0P0P0", 9, 0);
    }

    private static void atRest() {
        Doc.says("AT REST nobody WANTS another number than it wrote.");
        // Of two by law 0 one wants 1 where the other has not written it.
        RightIfAsMany x = Check.told("T00100");
        Check.due("rests(1): 1 alone", x.rests(1), 1);
        Check.due("rests(2): 1 and any other in two orders, and 1 1", x.rests(2), 19);
        Check.due("no pot: all rest", Check.told("T00000").rests(1), 10);
        Check.due("nobody rests", Check.told("T00100").rests(0), 1);
    }

    private static void dueRests(String table, int... want) {
        RightIfAsMany x = Check.told(table);
        for (int n = 0; n < want.length; n++) {
            Check.due(table + ": rests(" + n + ")", x.rests(n), want[n]);
        }
    }

    private static void restsFromNobodyToFour() {
        Doc.says("RESTS of n (0 to 4): how many rows of n numbers that are not BARRED are AT REST.");
        dueRests("T00000", 1, 10, 100, 1000, 10000);
        dueRests("T00000N5", 1, 9, 81, 729, 6561);
        dueRests("T00999" + ONLY_0, 1, 1, 1, 1, 1);
        dueRests("T21999" + ONLY_9, 1, 1, 1, 1, 1);
        dueRests("T20100", 1, 9, 80);
        dueRests("T00000P1P1P1P1P1P1P1P1P1", 1, 10);
        // Whoever is there does not count, whatever was asked before.
        RightIfAsMany x = Check.told("T00100P1");
        Check.due("settled()", x.settled(), 0);
        Check.due("rests(1)", x.rests(1), 1);
        Check.due("round()", x.round(), 0);
        Check.due("rests(2)", x.rests(2), 19);
        Twin.beyondByAll("rests", 0, 4, RightIfAsMany::rests, OUTSIDE);
    }

    private static void dueForget(String table, int x, long above, long below) {
        RightIfAsMany y = Check.told(table);
        Check.due(table + ": forget(0, " + x + ", true)", y.forget(0, x, true), above);
        Check.due(table + ": forget(0, " + x + ", false)", y.forget(0, x, false), below);
    }

    private static void forgettingFromNoneToTen() {
        Doc.says("FORGETTING by x tenths (0 to 10): each, by itself, writes nothing (and is not RIGHT): "
            + "the chance that a PERSON is RIGHT.");
        dueForget("T00000P1", 0, 1, 1);
        dueForget("T00000P1", 1, 9, 10);
        dueForget("T00000P1", 9, 1, 10);
        dueForget("T00000P1", 10, 0, 1);
        dueForget("T00000P0", 0, 0, 1);
        dueForget("T00000P0", 10, 0, 1);
        dueForget("T10000P0", 0, 1, 1);
        dueForget("T10000P0", 10, 0, 1);
        dueForget("T20000P1P1", 0, 0, 1);
        dueForget("T20000P1P1", 5, 1, 4);
        dueForget("T20000P1P1", 10, 0, 1);
        dueForget("T20000P1P1", 1, 9, 100);
        dueForget("T20000P1P1", 9, 9, 100);
        dueForget("T00000P9P9P9P9P9P9P9P9P9", 0, 1, 1);
        dueForget("T00000P9P9P9P9P9P9P9P9P9", 1, 387420489, 1000000000);
        dueForget("T00000P9P9P9P9P9P9P9P9P9", 9, 1, 1000000000);
        dueForget("T00000P9P9P9P9P9P9P9P9P9", 10, 0, 1);
        for (boolean upper : new boolean[] {true, false}) {
            Twin.beyond("forget(0, ..)", Twin::busy, 0, 10, (y, x) -> y.forget(0, x, upper), OUTSIDE);
        }
    }

    // ---- payments

    private static void paidPeople() {
        Doc.says("PAID is told for some PEOPLE 0 to 8");
        RightIfAsMany x = new RightIfAsMany();
        Check.due("pay(0, 5)", x.pay(0, 5), 1);
        Check.due("pay(8, 5)", x.pay(8, 5), 2);
        Check.due("pay(9, 5)", x.pay(9, 5), OUTSIDE);
        Check.due("pay(-1, 5)", x.pay(-1, 5), OUTSIDE);
        for (int person = 0; person < 9; person++) {
            x.come(0);
        }
        Check.due("cheated()", x.cheated(), 0);
        x.pay(0, 0);
        Check.due("cheated()", x.cheated(), 8);
        Twin.beyond("pay(.., 0)", Twin::busy, 0, 8, (y, person) -> y.pay(person, 0), OUTSIDE);
    }

    private static void twelvePaid() {
        Doc.says("(12 at most;");
        RightIfAsMany x = new RightIfAsMany();
        for (int told = 1; told <= 12; told++) {
            Check.due("PAID is told for the time " + told, x.pay(3, 0), told);
        }
        Check.due("a 13th time", x.pay(3, 0), FULL);
        Check.due("a 13th time of another", x.pay(4, 0), FULL);
        Check.due("PAID", x.count(5), 12);
    }

    private static void theLastOneCounts() {
        Doc.says("of one that was told before the last one counts).");
        RightIfAsMany x = Check.told("T00100P1P0");
        x.pay(0, 100);
        Check.due("the first one is as due", x.cheated(), NONE);
        x.pay(0, 99);
        Check.due("the second one is not", x.cheated(), 0);
        x.pay(0, 100);
        x.pay(1, 1);
        Check.due("the third one is again", x.cheated(), 1);
        for (int told = 5; told <= 11; told++) {
            x.pay(1, 2);
        }
        Check.due("the twelfth one", x.pay(1, 0), 12);
        Check.due("the twelfth one counts", x.cheated(), NONE);
        Check.due("a 13th one", x.pay(1, 5), FULL);
        Check.due("the 13th one does not count", x.cheated(), NONE);
    }

    private static void cheated() {
        Doc.says("CHEATED: the least PERSON that is there and was PAID otherwise than it gets; NONE.");
        RightIfAsMany x = Check.told("T00100P1P2P2P3P3P3P4P0");
        Check.due("nobody was PAID", x.cheated(), NONE);
        x.pay(8, 1);
        Check.due("PERSON 8 is not there", x.cheated(), NONE);
        x.come(0);
        Check.due("PERSON 8 is there", x.cheated(), 8);
        x.pay(7, 0);
        Check.due("PAID 0 as it gets", x.cheated(), 8);
        x.pay(7, 1);
        Check.due("PAID one more", x.cheated(), 7);
        x.pay(0, 16);
        Check.due("PAID 16 as it gets", x.cheated(), 7);
        x.pay(0, 15);
        Check.due("PAID one less", x.cheated(), 0);
        x.leave(0);
        // The others are five that are right now; 0 was PAID 15, and gets 20.
        Check.due("the next one is PERSON 0 now", x.cheated(), 0);
        x.unpay();
        Check.due("nothing is PAID", x.cheated(), NONE);
    }

    // ---- evenings

    private static void theSeedAtFirst() {
        Doc.says("AN EVENING by THE SEED: person by person x (THE SEED, a long; 0 at first)");
        RightIfAsMany x = new RightIfAsMany();
        Check.due("seed(0)", x.seed(0), 0);
        RightIfAsMany one = Check.told("T00000P1");
        one.won(0, 1);
        Check.due("a step of one PERSON", one.seed(0), PLUS);
        RightIfAsMany two = Check.told("T00000P1P1");
        two.won(0, 1);
        Check.due("a step of each of two", two.seed(0), PLUS * TIMES + PLUS);
    }

    private static void theSeedWraps() {
        Doc.says("becomes x times 6364136223846793005 and 1442695040888963407 (64 bits, wrapping);");
        RightIfAsMany x = Check.told("T00000P1");
        for (long seed : new long[] {0, 1, -1, 2, Long.MAX_VALUE, Long.MIN_VALUE, 1L << 32, 1L << 62, -TIMES}) {
            x.seed(seed);
            x.won(0, 1);
            java.math.BigInteger step = java.math.BigInteger.valueOf(seed)
                .multiply(java.math.BigInteger.valueOf(TIMES)).add(java.math.BigInteger.valueOf(PLUS));
            Check.due("behind " + seed, x.seed(0), step.longValue());
        }
        x.seed(before(0));
        x.won(0, 1);
        Check.due("it becomes 0", x.seed(0), 0);
        x.seed(before(Long.MIN_VALUE));
        x.won(0, 1);
        Check.due("it becomes the least long", x.seed(0), Long.MIN_VALUE);
    }

    /** The seed that becomes a given one. */
    private static long before(long seed) {
        long inverse = 1;
        for (int step = 0; step < 6; step++) {
            inverse *= 2 - TIMES * inverse;
        }
        return (seed - PLUS) * inverse;
    }

    private static void dueWon(String table, long becomes, int want) {
        RightIfAsMany x = Check.told(table + "P" + (table.contains("N0") ? 1 : 0));
        x.seed(before(becomes));
        Check.due(table + " by " + becomes + ": won(0, 1)", x.won(0, 1), want);
        Check.due("THE SEED", x.seed(0), becomes);
    }

    private static void theUpperBits() {
        Doc.says("of it the upper 31 bits: by how many numbers are not BARRED, what is left counts the one it writes, "
            + "the least first.");
        // By law 0 one that is alone wins with 1; by law 1 with 0, too; by law 2 with all but 0.
        dueWon("T00100", 0, 0);
        dueWon("T10100", 0, 100);
        dueWon("T20100", 0, 0);
        dueWon("T10100", (1L << 33) - 1, 100);
        dueWon("T20100", (1L << 33) - 1, 0);
        dueWon("T00100", 1L << 33, 100);
        dueWon("T00100", (2L << 33) - 1, 100);
        dueWon("T00100", 2L << 33, 0);
        dueWon("T20100", 2L << 33, 100);
        // 9 is the last of ten; of 10 and of 11 nothing and 1 are left.
        dueWon("T20100", 9L << 33, 100);
        dueWon("T20100", 10L << 33, 0);
        dueWon("T00100", 11L << 33, 100);
        // The least long has 2^30, which is even; -1 has 2^31 - 1, which is odd, and no sign.
        dueWon("T00100" + ONLY_0_AND_1, Long.MIN_VALUE, 0);
        dueWon("T10100" + ONLY_0_AND_1, Long.MIN_VALUE, 100);
        dueWon("T00100" + ONLY_0_AND_1, -1, 100);
        dueWon("T00100" + ONLY_0_AND_1, Long.MAX_VALUE, 100);
        dueWon("T00100N0N3N4N5N6N7N8N9", -1, 0);
        dueWon("T00100N0N3N4N5N6N7N8N9", Long.MIN_VALUE, 100);
        // One number alone is always what it writes.
        dueWon("T00100N0N2N3N4N5N6N7N8N9", -1, 100);
        dueWon("T00100N0N2N3N4N5N6N7N8N9", 0, 100);
    }

    private static void wonFromOneToForty() {
        Doc.says("WON: what a PERSON gets in m EVENINGS (1 to 40), one behind the other, together.");
        RightIfAsMany x = Check.told("T00999N0N2N3N4N5N6N7N8N9P1");
        Check.due("won(0, 1)", x.won(0, 1), 999);
        Check.due("won(0, 40)", x.won(0, 40), 39960);
        Check.due("won(0, 39)", x.won(0, 39), 38961);
        Check.due("won(0, 0)", x.won(0, 0), OUTSIDE);
        Check.due("won(0, 41)", x.won(0, 41), OUTSIDE);
        Twin.beyond("won(0, ..)", Twin::busy, 1, 40, (y, m) -> y.won(0, m), OUTSIDE);
        RightIfAsMany some = Check.told("T20100N0N5N6N7N8N9P1P1P1P1");
        RightIfAsMany same = Check.told("T20100N0N5N6N7N8N9P1P1P1P1");
        int together = 0;
        for (int evening = 1; evening <= 40; evening++) {
            together += same.won(2, 1);
        }
        Check.due("forty at once, or one by one", some.won(2, 40), together);
        Check.holds("something was won", together > 0 && together < 4000);
        Check.due("THE SEED went on alike", some.seed(0), same.seed(0));
    }

    private static void nothingChangesButTheSeed() {
        Doc.says("(Nothing changes but THE SEED.)");
        Twin.refused("evenings, and THE SEED put back", Twin::busy, x -> {
            x.won(0, 1);
            x.won(3, 40);
            x.seed(-77);
            return 0;
        }, 0);
    }

    // ---- slots

    private static void slots() {
        Doc.says("SLOTS 0 to 1 keep PEOPLE and what they wrote (THE ROW of ACTS is empty when one goes on).");
        RightIfAsMany x = Check.told("T00000P1P2");
        Check.due("keep(0)", x.keep(0), 2);
        x.leave(0);
        x.leave(0);
        Check.due("keep(1) of nobody", x.keep(1), 0);
        Check.due("keep(2)", x.keep(2), UNKNOWN);
        Check.due("keep(-1)", x.keep(-1), UNKNOWN);
        Check.due("ACTS", x.count(4), 2);
        Check.due("again(1)", x.again(1), 0);
        Check.due("ACTS", x.count(4), 0);
        Check.due("again(0)", x.again(0), 2);
        Check.duePeople("again(0)", x, "12");
        Check.due("undo()", x.undo(), STATE);
        Twin.beyondByAll("keep", 0, 1, RightIfAsMany::keep, UNKNOWN);
        Twin.beyondByAll("again", 0, 1, RightIfAsMany::again, UNKNOWN);
    }
}
