/** Promises 28 to 30: kept and gone on from, what can be counted. */
public final class SlotsTest {
    private static final int UNKNOWN = -1, OUTSIDE = -2, STATE = -3;

    public static void main(String[] args) {
        keep();
        again();
        slotsAreApart();
        count();
        countOfRight();
        countOfWhatIsLeft();
        Check.end();
    }

    // Promise 28
    private static void keep() {
        RightIfAsMany x = Check.told("T00100P1P2P2");
        String before = Check.seen(x);
        for (int slot : new int[] {-1, 2, Integer.MIN_VALUE, Integer.MAX_VALUE}) {
            Check.refused("keep(" + slot + ")", x, before, x.keep(slot), UNKNOWN);
        }
        Check.refused("nothing was kept", x, before, x.again(0), STATE);
        Check.refused("nothing was kept", x, before, x.again(1), STATE);
        x.come(4);
        Check.due("keep(1)", x.keep(1), 4);
        Check.due("keep is no ACT and drops none", x.count(4), 1);
        Check.due("undo()", x.undo(), 0);
        Check.duePeople("undo()", x, "122");
        Check.due("again(1)", x.again(1), 4);
        x.leave(0);
        Check.due("keep(1) anew", x.keep(1), 3);
        x.leave(0);
        Check.due("again(1)", x.again(1), 3);
        Check.duePeople("the last one counts", x, "224");
    }

    // Promise 29
    private static void again() {
        RightIfAsMany x = Check.told("T01100N7P1P2P2");
        x.slip(0, 5);
        String before = Check.seen(x);
        for (int slot : new int[] {-1, 2, Integer.MIN_VALUE, Integer.MAX_VALUE}) {
            Check.refused("again(" + slot + ")", x, before, x.again(slot), UNKNOWN);
        }
        Check.refused("again(0) of nothing", x, before, x.again(0), STATE);
        Check.due("keep(0)", x.keep(0), 3);
        Check.refused("again(1) of nothing", x, before, x.again(1), STATE);
        x.leave(0);
        x.leave(0);
        Check.due("ACTS", x.count(4), 3);
        Check.due("again(0)", x.again(0), 3);
        Check.duePeople("again(0)", x, "522");
        Check.due("ACTS are gone", x.count(4), 0);
        Check.due("undo()", x.undo(), STATE);
        Check.due("wrote(2)", x.wrote(2), 2);
        x.round();
        x.pay(0, 3);
        x.seed(8);
        x.tenths(4, 4);
        Check.due("again(0) once more", x.again(0), 3);
        Check.duePeople("again(0) once more", x, "522");
        Check.due("PAID stays", x.count(5), 1);
        Check.due("THE SEED stays", x.seed(0), 8);
        Check.due("TENTHS stay", x.tenths(4, 0), 4);
        Check.due("BARRED stays", x.count(3), 128);
        Check.due("POT stays", x.count(6), 100);
    }

    private static void slotsAreApart() {
        RightIfAsMany x = Check.told("T00100P9P8P7P6P5P4P3P2P1");
        Check.due("keep(0) of nine", x.keep(0), 9);
        for (int left = 8; left >= 0; left--) {
            x.leave(0);
        }
        Check.due("keep(1) of nobody", x.keep(1), 0);
        Check.due("again(0)", x.again(0), 9);
        Check.duePeople("again(0)", x, "987654321");
        Check.due("again(1)", x.again(1), 0);
        Check.duePeople("again(1)", x, "");
        Check.due("again(0)", x.again(0), 9);
        Check.duePeople("again(0)", x, "987654321");
    }

    // Promise 30
    private static RightIfAsMany counted() {
        RightIfAsMany x = Check.told("T21985N0N9P3P3P1");
        x.come(1);
        x.slip(3, 2);
        x.pay(4, 4);
        x.pay(4, 4);
        x.pay(5, 4);
        return x;
    }

    private static void count() {
        int[] want = {16, 4, 15, 513, 2, 3, 985, 2, 1, 2};
        for (int what = 0; what <= 9; what++) {
            RightIfAsMany x = counted();
            String before = Check.seen(x);
            Check.refused("count(" + what + ")", x, before, x.count(what), want[what]);
        }
        for (int what : new int[] {-1, 10, Integer.MIN_VALUE, Integer.MAX_VALUE}) {
            RightIfAsMany x = counted();
            String before = Check.seen(x);
            Check.refused("count(" + what + ")", x, before, x.count(what), OUTSIDE);
        }
    }

    private static void countOfRight() {
        Check.due("all", Check.told("T00100P2P2P3P3P3P4P4P4P4").count(2), 511);
        Check.due("the first and the last", Check.told("T00100P2P0P0P0P0P0P0P0P2").count(2), 257);
        Check.due("none", Check.told("T00100P2P0P0").count(2), 0);
        Check.due("law 1", Check.told("T10100P2P0P0P1").count(2), 14);
        Check.due("law 2", Check.told("T20100P2P0P0P1").count(2), 9);
    }

    private static void countOfWhatIsLeft() {
        Check.due("nobody", Check.told("T00100").count(9), 100);
        Check.due("nobody right", Check.told("T00100P0P3").count(9), 100);
        Check.due("one", Check.told("T00100P1").count(9), 0);
        Check.due("three", Check.told("T00100P1P2P2").count(9), 1);
        Check.due("by numbers", Check.told("T01099P1P2P2").count(9), 2);
        Check.due("by numbers that are 0", Check.told("T11100P0P0").count(9), 100);
        Check.due("less than one each", Check.told("T00002P1P2P2").count(9), 2);
    }
}
