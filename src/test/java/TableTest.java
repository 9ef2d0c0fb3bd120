/** Promises 1 to 7: a new object, the text, its first fault, the table, people, who wrote what. */
public final class TableTest {
    private static final int UNKNOWN = -1, OUTSIDE = -2, STATE = -3, FULL = -4, NONE = -9;

    public static void main(String[] args) {
        aNewObject();
        write();
        wipe();
        fault();
        faultByWhatCouldFollow();
        table();
        tableKeepsAndDrops();
        personByLaw();
        personByShare();
        personWants();
        wrote();
        Check.end();
    }

    // Promise 1
    private static void aNewObject() {
        RightIfAsMany x = new RightIfAsMany();
        for (int what = 0; what <= 9; what++) {
            Check.due("new: count(" + what + ")", x.count(what), 0);
        }
        Check.due("new: person(0, 0)", x.person(0, 0), UNKNOWN);
        Check.due("new: fault()", x.fault(), 0);
        Check.due("new: undo()", x.undo(), STATE);
        Check.due("new: again(0)", x.again(0), STATE);
        Check.due("new: again(1)", x.again(1), STATE);
        Check.due("new: cheated()", x.cheated(), NONE);
        Check.due("new: unpay()", x.unpay(), 0);
        Check.due("new: seed(1)", x.seed(1), 0);
        for (int number = 0; number <= 9; number++) {
            Check.due("new: wrote(" + number + ")", x.wrote(number), 0);
            Check.due("new: tenths(" + number + ", 0)", x.tenths(number, 0), number == 1 ? 10 : 0);
        }
        Check.due("UNKNOWN", RightIfAsMany.UNKNOWN, UNKNOWN);
        Check.due("OUTSIDE", RightIfAsMany.OUTSIDE, OUTSIDE);
        Check.due("STATE", RightIfAsMany.STATE, STATE);
        Check.due("FULL", RightIfAsMany.FULL, FULL);
        Check.due("NONE", RightIfAsMany.NONE, NONE);
    }

    // Promise 2
    private static void write() {
        RightIfAsMany x = new RightIfAsMany();
        String before = Check.seen(x);
        Check.refused("write(0, 84)", x, before, x.write(0, 84), OUTSIDE);
        Check.refused("write(9, 84)", x, before, x.write(9, 84), OUTSIDE);
        Check.refused("write(-1, 84)", x, before, x.write(-1, 84), OUTSIDE);
        Check.refused("write(min, 84)", x, before, x.write(Integer.MIN_VALUE, 84), OUTSIDE);
        Check.refused("write(max, 84)", x, before, x.write(Integer.MAX_VALUE, 84), OUTSIDE);
        Check.due("write of the lowest byte alone", x.write(1, 0x5858585858585854L), 1);
        Check.due("T was written", x.fault(), 1);
        Check.due("write(5, 00000)", x.write(5, Check.bytes("00000")), 6);
        Check.due("the highest byte first", x.fault(), NONE);
        Check.due("write(2, P5)", x.write(2, Check.bytes("P5")), 8);
        Check.due("P is ahead of 5", x.fault(), NONE);
        Check.due("a byte above 127", x.write(1, -1L), 9);
        Check.due("a byte above 127 is a fault", x.fault(), 8);

        RightIfAsMany y = new RightIfAsMany();
        for (int i = 1; i <= 4; i++) {
            Check.due("write(8, ..)", y.write(8, -1L), 8 * i);
        }
        Check.due("write(4, ..)", y.write(4, 0), 36);
        before = Check.seen(y);
        Check.refused("write(5, ..) behind 36", y, before, y.write(5, 0), FULL);
        Check.refused("write(8, ..) behind 36", y, before, y.write(8, 0), FULL);
        Check.due("write(4, ..) behind 36", y.write(4, 0), 40);
        before = Check.seen(y);
        Check.refused("write(1, ..) behind 40", y, before, y.write(1, 0), FULL);
        Check.refused("write(9, ..) behind 40", y, before, y.write(9, 0), OUTSIDE);
        Check.refused("write(0, ..) behind 40", y, before, y.write(0, 0), OUTSIDE);
    }

    // Promise 3
    private static void wipe() {
        RightIfAsMany x = Check.told("T01123N7P5P5");
        Check.due("wipe()", x.wipe(), 12);
        Check.due("count(0)", x.count(0), 0);
        Check.due("fault()", x.fault(), 0);
        Check.due("wipe() again", x.wipe(), 0);
        Check.due("the table stays", x.count(6), 123);
        Check.duePeople("wipe()", x, "55");
        Check.write(x, "T");
        Check.due("what is written comes first", x.fault(), 1);
    }

    // Promise 4
    private static void dueFault(String text, int want) {
        RightIfAsMany x = new RightIfAsMany();
        Check.write(x, text);
        Check.due("fault() of " + text, x.fault(), want);
        Check.due("length of " + text, x.count(0), text.length());
    }

    private static void fault() {
        dueFault("", 0);
        dueFault("X", 0);
        dueFault("t00000", 0);
        dueFault("\u0000", 0);
        dueFault("\u00d4", 0);
        dueFault("T", 1);
        dueFault("T3", 1);
        dueFault("T/", 1);
        dueFault("T2", 2);
        dueFault("T22", 2);
        dueFault("T21", 3);
        dueFault("T21/", 3);
        dueFault("T21:", 3);
        dueFault("T2199", 5);
        dueFault("T219x9", 4);
        dueFault("T21999", NONE);
        dueFault("T21999T", 6);
        dueFault("T219999", 6);
        dueFault("T21999n", 6);
        dueFault("T21999N", 7);
        dueFault("T21999NN", 7);
        dueFault("T21999N:", 7);
        dueFault("T21999N/", 7);
        dueFault("T21999P", 7);
        dueFault("T21999P9", NONE);
        dueFault("T21999P9\u00b9", 8);
        dueFault("T21999P9P9N0P9", NONE);
        dueFault("T00000N1N1", 9);
        dueFault("T00000P1N1", 9);
        dueFault("T00000N1P1", 9);
        dueFault("T00000N1P1P2Q", 9);
        dueFault("X3Q", 0);
    }

    // A letter that no number can follow is itself the fault.
    private static void faultByWhatCouldFollow() {
        dueFault("T00000N0N1N2N3N4N5N6N7N8", NONE);
        dueFault("T00000N0N1N2N3N4N5N6N7N8N", 24);
        dueFault("T00000N0N1N2N3N4N5N6N7N8P", 25);
        dueFault("T00000N0N1N2N3N4N5N6N7N8P8", 25);
        dueFault("T00000N0N1N2N3N4N5N6N7N8P9", NONE);
        dueFault("T00000P1P1P1P1P1P1P1P1P1", NONE);
        dueFault("T00000P1P1P1P1P1P1P1P1P1P", 24);
        dueFault("T00000P1P1P1P1P1P1P1P1P1N", 25);
        dueFault("T00000P0P1P2P3P4P5P6P7P8N", 25);
        dueFault("T00000P0P1P2P3P4P5P6P7P8N9", NONE);
        dueFault("T00000P0P1P2P3P4P5P6P7P8N9N", 26);
        dueFault("T00000P1P2P3P4P5P6P7P8P9N", 25);
        dueFault("T00000P1P2P3P4P5P6P7P8P9N0", NONE);
        dueFault("T00000P1P2P3P4P5P6P7P8P9N1", 25);
        dueFault("T00000P1P2P3P4P5P6P7P8P9N0N", 26);
        dueFault("T00000N0N1N2N3N4N5N6N7P8P9", NONE);
        dueFault("T00000N0N1N2N3N4N5N6N7P8P9N", 26);
        dueFault("T00000N0N1N2N3N4N5N6N7P8P8N", 27);
        dueFault("T00000N0N1N2N3N4N5N6N7P8P8N8", 27);
        dueFault("T00000P0P1P2P3P4N5N6N7N8N9N5", 26);
        dueFault("T00000N0N1N2N3N4N5N6N7N8P9P9P9P9P9P9P9P9", NONE);
        dueFault("T00000N0N1N2N3N4N5N6N7N8P9P9P9P9P9P9P9P", 39);
    }

    // Promise 5
    private static void table() {
        RightIfAsMany x = new RightIfAsMany();
        Check.write(x, "T21407N0P5N9P1P5");
        Check.due("table()", x.table(), 3);
        Check.due("LAW", x.count(7), 2);
        Check.due("SHARE", x.count(8), 1);
        Check.due("POT", x.count(6), 407);
        Check.due("BARRED", x.count(3), 513);
        Check.duePeople("table()", x, "515");
        Check.due("THE TEXT stays", x.count(0), 16);
        Check.write1(x, 'P', 17);
        String before = Check.seen(x);
        Check.refused("table() of a text not at its end", x, before, x.table(), STATE);
        Check.due("wipe()", x.wipe(), 17);
        before = Check.seen(x);
        Check.refused("table() of no text", x, before, x.table(), STATE);
        Check.write(x, "T31999P1");
        before = Check.seen(x);
        Check.refused("table() of a fault", x, before, x.table(), STATE);
        Check.tell(x, "T00009");
        Check.due("nobody", x.count(1), 0);
        Check.due("POT 009", x.count(6), 9);
        Check.due("nothing BARRED", x.count(3), 0);
        Check.due("table() again", x.table(), 0);
    }

    private static void tableKeepsAndDrops() {
        RightIfAsMany x = Check.told("T00100P1P2P2");
        Check.due("slip(0, 3)", x.slip(0, 3), 1);
        Check.due("keep(0)", x.keep(0), 3);
        Check.due("keep(1)", x.keep(1), 3);
        Check.due("pay(1, 7)", x.pay(1, 7), 1);
        x.seed(77);
        x.tenths(1, 4);
        String before = Check.seen(x);
        x.write(1, 'Q');
        Check.due("table() of a fault", x.table(), STATE);
        Check.due("ACTS stay where it is refused", x.count(4), 1);
        Check.due("what was kept stays where it is refused", x.again(1), 3);
        Check.due("slip(0, 3)", x.slip(0, 3), 3);
        Check.holds("something is seen", !before.isEmpty());
        Check.tell(x, "T00100P1P2P2");
        Check.due("ACTS are gone", x.count(4), 0);
        Check.due("undo()", x.undo(), STATE);
        Check.due("again(0)", x.again(0), STATE);
        Check.due("again(1)", x.again(1), STATE);
        Check.due("PAID stays", x.count(5), 1);
        Check.due("cheated()", x.cheated(), 1);
        Check.due("TENTHS stay", x.tenths(1, 4), 4);
        Check.due("THE SEED stays", x.seed(0), 77);
    }

    // Promise 6
    private static void duePerson(String table, int what, int... want) {
        RightIfAsMany x = Check.told(table);
        for (int person = 0; person < want.length; person++) {
            Check.due(table + ": person(" + person + ", " + what + ")", x.person(person, what), want[person]);
        }
        Check.due(table + ": one too many", x.person(want.length, what), UNKNOWN);
    }

    private static void personByLaw() {
        duePerson("T00100P1P2P2P3P0", 0, 1, 2, 2, 3, 0);
        duePerson("T00100P1P2P2P3P0", 1, 1, 1, 1, 0, 0);
        duePerson("T10100P1P1P2P3P0P0", 1, 1, 1, 0, 0, 1, 1);
        duePerson("T20100P1P1P2P3P3P0", 1, 0, 0, 1, 1, 1, 0);
        duePerson("T00100P9P9P9P9P9P9P9P9P9", 1, 1, 1, 1, 1, 1, 1, 1, 1, 1);
        RightIfAsMany x = Check.told("T00100P1");
        String before = Check.seen(x);
        Check.refused("person(0, 4)", x, before, x.person(0, 4), OUTSIDE);
        Check.refused("person(0, -1)", x, before, x.person(0, -1), OUTSIDE);
        Check.refused("person(1, 4)", x, before, x.person(1, 4), UNKNOWN);
        Check.refused("person(-1, 4)", x, before, x.person(-1, 4), UNKNOWN);
        Check.refused("person(max, 0)", x, before, x.person(Integer.MAX_VALUE, 0), UNKNOWN);
        Check.refused("person(min, 0)", x, before, x.person(Integer.MIN_VALUE, 0), UNKNOWN);
    }

    private static void personByShare() {
        duePerson("T00100P1P2P2P3P0", 2, 33, 33, 33, 0, 0);
        duePerson("T01100P1P2P2P3P0", 2, 20, 40, 40, 0, 0);
        duePerson("T01099P1P2P2P3P0", 2, 19, 39, 39, 0, 0);
        duePerson("T00002P1P2P2", 2, 0, 0, 0);
        duePerson("T11100P0P0", 2, 0, 0);
        duePerson("T10100P0P0", 2, 50, 50);
        duePerson("T11100P0P1", 2, 0, 100);
        duePerson("T00999P0P0P3", 2, 0, 0, 0);
        duePerson("T21999P9P8P7P0", 2, 374, 333, 291, 0);
    }

    private static void personWants() {
        duePerson("T00100P1", 3, 1);
        duePerson("T00100P5", 3, 1);
        duePerson("T00000P5", 3, 5);
        duePerson("T20100P5", 3, 5);
        duePerson("T20100P0", 3, 1);
        duePerson("T20100N1P0", 3, 2);
        duePerson("T21100P1P9", 3, 9, 9);
        duePerson("T01100P1P2", 3, 1, 2);
        duePerson("T00100P2P2", 3, 1, 1);
        duePerson("T00100N1P2P2", 3, 2, 2);
        duePerson("T10100P9", 3, 0);
        duePerson("T10100P1P9", 3, 1, 0);
        duePerson("T11100P0P0", 3, 1, 1);
        duePerson("T11100P0P1P1", 3, 1, 1, 1);
        duePerson("T11100P0P2P1", 3, 1, 1, 1);
        duePerson("T11100P0P2P2", 3, 2, 1, 1);
        duePerson("T01100P3P3P2", 3, 1, 1, 1);
    }

    // Promise 7
    private static void wrote() {
        RightIfAsMany x = Check.told("T00100N4P1P2P2P9P9P9P0");
        int[] want = {1, 1, 2, 0, 0, 0, 0, 0, 0, 3};
        for (int number = 0; number <= 9; number++) {
            Check.due("wrote(" + number + ")", x.wrote(number), want[number]);
        }
        String before = Check.seen(x);
        Check.refused("wrote(-1)", x, before, x.wrote(-1), OUTSIDE);
        Check.refused("wrote(10)", x, before, x.wrote(10), OUTSIDE);
        Check.refused("wrote(min)", x, before, x.wrote(Integer.MIN_VALUE), OUTSIDE);
        Check.refused("wrote(max)", x, before, x.wrote(Integer.MAX_VALUE), OUTSIDE);
        x.slip(6, 9);
        Check.due("wrote(9) behind a slip", x.wrote(9), 4);
        Check.due("wrote(0) behind a slip", x.wrote(0), 0);
    }
}
