/** Promises 8 to 13: slips, people that come and leave, rounds, undone, settled. */
public final class ActsTest {
    private static final int UNKNOWN = -1, OUTSIDE = -2, STATE = -3, FULL = -4, NONE = -9;

    public static void main(String[] args) {
        slip();
        come();
        leave();
        round();
        roundByLaw();
        undo();
        undoTheRow();
        settled();
        settledByTheBound();
        Check.end();
    }

    // Promise 8
    private static void slip() {
        RightIfAsMany x = Check.told("T00100N7P1P2P2");
        String before = Check.seen(x);
        Check.refused("slip(3, 1)", x, before, x.slip(3, 1), UNKNOWN);
        Check.refused("slip(-1, 1)", x, before, x.slip(-1, 1), UNKNOWN);
        Check.refused("slip(3, 10)", x, before, x.slip(3, 10), UNKNOWN);
        Check.refused("slip(3, 7)", x, before, x.slip(3, 7), UNKNOWN);
        Check.refused("slip(0, 10)", x, before, x.slip(0, 10), OUTSIDE);
        Check.refused("slip(0, -1)", x, before, x.slip(0, -1), OUTSIDE);
        Check.refused("slip(0, max)", x, before, x.slip(0, Integer.MAX_VALUE), OUTSIDE);
        Check.refused("slip(0, 39)", x, before, x.slip(0, 39), OUTSIDE);
        Check.refused("slip(0, 7)", x, before, x.slip(0, 7), STATE);
        Check.due("slip(0, 9)", x.slip(0, 9), 1);
        Check.duePeople("slip(0, 9)", x, "922");
        Check.due("slip(2, 0)", x.slip(2, 0), 2);
        Check.duePeople("slip(2, 0)", x, "920");
        Check.due("ACTS", x.count(4), 2);
        Check.due("slip(2, 0) once more", x.slip(2, 0), 0);
        Check.due("what it wrote anew is an ACT, too", x.count(4), 3);
        Check.duePeople("slip(2, 0)", x, "920");
    }

    // Promise 9
    private static void come() {
        RightIfAsMany x = Check.told("T00100N7P1");
        String before = Check.seen(x);
        Check.refused("come(10)", x, before, x.come(10), OUTSIDE);
        Check.refused("come(-1)", x, before, x.come(-1), OUTSIDE);
        Check.refused("come(min)", x, before, x.come(Integer.MIN_VALUE), OUTSIDE);
        Check.refused("come(7)", x, before, x.come(7), STATE);
        for (int person = 1; person <= 8; person++) {
            Check.due("come(" + (10 - person) % 7 + ")", x.come((10 - person) % 7), person);
            Check.due("PEOPLE", x.count(1), person + 1);
            Check.due("ACTS", x.count(4), person);
        }
        Check.duePeople("come", x, "121065432");
        before = Check.seen(x);
        Check.refused("come(1), the tenth", x, before, x.come(1), FULL);
        Check.refused("come(7), the tenth", x, before, x.come(7), STATE);
        Check.refused("come(10), the tenth", x, before, x.come(10), OUTSIDE);
    }

    // Promise 10
    private static void leave() {
        RightIfAsMany x = Check.told("T00100P1P2P3P4");
        String before = Check.seen(x);
        Check.refused("leave(4)", x, before, x.leave(4), UNKNOWN);
        Check.refused("leave(-1)", x, before, x.leave(-1), UNKNOWN);
        Check.refused("leave(max)", x, before, x.leave(Integer.MAX_VALUE), UNKNOWN);
        Check.due("leave(1)", x.leave(1), 2);
        Check.duePeople("leave(1)", x, "134");
        Check.due("wrote(2)", x.wrote(2), 0);
        Check.due("leave(2)", x.leave(2), 4);
        Check.duePeople("leave(2)", x, "13");
        Check.due("leave(0)", x.leave(0), 1);
        Check.duePeople("leave(0)", x, "3");
        Check.due("leave(1)", x.leave(1), UNKNOWN);
        Check.due("leave(0)", x.leave(0), 3);
        Check.due("leave(0) of nobody", x.leave(0), UNKNOWN);
        Check.due("ACTS", x.count(4), 4);
        RightIfAsMany full = Check.told("T00100P1P2P3P4P5P6P7P8P9");
        Check.due("leave(8)", full.leave(8), 9);
        Check.due("leave(0)", full.leave(0), 1);
        Check.duePeople("leave(0)", full, "2345678");
    }

    // Promise 11
    private static void dueRound(String table, int want, String people) {
        RightIfAsMany x = Check.told(table);
        Check.due(table + ": round()", x.round(), want);
        Check.duePeople(table + ": round()", x, people);
        Check.due(table + ": a ROUND is an ACT", x.count(4), 1);
    }

    private static void round() {
        dueRound("T00100", 0, "");
        dueRound("T00100P1", 0, "1");
        dueRound("T00100P0", 1, "1");
        dueRound("T00100P0P0", 2, "11");
        dueRound("T00100P1P1", 0, "11");
        dueRound("T00100P1P2", 0, "12");
        dueRound("T00100P1P0P2", 1, "122");
        dueRound("T00100N1P2P2P3P3", 0, "2233");
        dueRound("T00100N1P3P3P2", 3, "223");
        dueRound("T00100N1N2N4N6N7N8N9P5P5", 0, "55");
        RightIfAsMany x = Check.told("T00100P3P3P1P1");
        Check.due("round()", x.round(), 2);
        Check.duePeople("round()", x, "3333");
        Check.due("round()", x.round(), 4);
        Check.duePeople("round()", x, "1111");
        Check.due("round()", x.round(), 0);
        Check.due("a ROUND that changes nothing is an ACT, too", x.count(4), 3);
    }

    private static void roundByLaw() {
        dueRound("T10100P3P3P1", 2, "001");
        dueRound("T10100N0P3P3P1", 2, "111");
        dueRound("T10100N0N1P3P3P2", 3, "223");
        dueRound("T20100P1P1P0", 3, "222");
        dueRound("T20100N2P1P1P0", 3, "333");
        dueRound("T20100N0P1P3P1P2P2", 2, "33322");
    }

    // Promise 12
    private static void undo() {
        RightIfAsMany x = Check.told("T00100P1P2P2");
        String before = Check.seen(x);
        Check.refused("undo() of nothing", x, before, x.undo(), STATE);
        x.slip(0, 5);
        x.come(7);
        x.leave(1);
        Check.due("round()", x.round(), 3);
        Check.due("undo() of a ROUND", x.undo(), 3);
        Check.duePeople("undo() of a ROUND", x, "527");
        Check.due("undo() of a leave", x.undo(), 2);
        Check.duePeople("undo() of a leave", x, "5227");
        Check.due("undo() of a come", x.undo(), 1);
        Check.duePeople("undo() of a come", x, "522");
        Check.due("undo() of a slip", x.undo(), 0);
        Check.duePeople("undo() of a slip", x, "122");
        Check.refused("all is as it was", x, before, x.undo(), STATE);
    }

    private static void undoTheRow() {
        RightIfAsMany x = Check.told("T00100P0");
        for (int act = 1; act <= 20; act++) {
            x.slip(0, act % 10);
            Check.due("ACTS behind " + act, x.count(4), Math.min(16, act));
        }
        for (int left = 15; left >= 0; left--) {
            Check.due("undo()", x.undo(), left);
            Check.due("what it wrote", x.person(0, 0), (left + 4) % 10);
        }
        Check.due("the first four are forgotten", x.undo(), STATE);
        Check.due("what it wrote", x.person(0, 0), 4);
    }

    // Promise 13
    private static void dueSettled(String table, int want) {
        RightIfAsMany x = Check.told(table);
        String before = Check.seen(x);
        Check.refused(table + ": settled()", x, before, x.settled(), want);
        for (int round = 0; round < want; round++) {
            Check.holds(table + ": ROUND " + round + " changes something", x.round() > 0);
        }
        if (want >= 0) {
            Check.due(table + ": the ROUND behind them", x.round(), 0);
        }
    }

    private static void settled() {
        dueSettled("T00000", 0);
        dueSettled("T00000P1", 0);
        dueSettled("T00000P0", 1);
        dueSettled("T00100P3P3P1P1", 2);
        dueSettled("T00100N1P3P3P2", 1);
        dueSettled("T10000P3P3P1", 1);
        dueSettled("T00100N1N2N4N6N7N8N9P5P5", 0);
    }

    // By law 2 four that write 1 or 3 alone go to and fro, and do so for ever.
    private static void settledByTheBound() {
        dueSettled("T20100N0N2N4N5N6N7N8N9P1P1P1P1", NONE);
        RightIfAsMany x = Check.told("T20100N0N2N4N5N6N7N8N9P1P1P1P1");
        for (int round = 0; round < 70; round++) {
            Check.due("round() " + round, x.round(), 4);
            Check.duePeople("round() " + round, x, round % 2 == 0 ? "3333" : "1111");
        }
    }
}
