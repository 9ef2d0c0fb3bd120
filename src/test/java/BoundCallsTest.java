/** The boundaries of the promises 1 to 13: each sentence has a test of its own. */
public final class BoundCallsTest {
    private static final int UNKNOWN = -1, OUTSIDE = -2, STATE = -3, FULL = -4, NONE = -9;

    public static void main(String[] args) {
        Doc.open(args);
        aNewObject();
        write();
        wipe();
        fault();
        table();
        person();
        wrote();
        slip();
        come();
        leave();
        round();
        undo();
        settled();
        Check.end();
    }

    private static RightIfAsMany nobody() {
        RightIfAsMany x = Check.told("T10100N3");
        x.come(1);
        x.leave(0);
        return x;
    }

    // ---- promise 1

    private static void aNewObject() {
        Doc.fromPromise(1);
        nobodyAndNoPot();
        Doc.allIsNamed();
    }

    private static void nobodyAndNoPot() {
        Doc.says("Nobody, no pot.");
        RightIfAsMany x = new RightIfAsMany();
        for (int what = 0; what <= 9; what++) {
            Check.due("count(" + what + ")", x.count(what), 0);
        }
        Check.due("person(0, 0)", x.person(0, 0), UNKNOWN);
        Check.due("slip(0, 0)", x.slip(0, 0), UNKNOWN);
        Check.due("leave(0)", x.leave(0), UNKNOWN);
        Check.due("agreed(0)", x.agreed(0), UNKNOWN);
        Check.due("forget(0, 0, true)", x.forget(0, 0, true), UNKNOWN);
        Check.due("won(0, 1)", x.won(0, 1), UNKNOWN);
        Check.due("round()", x.round(), 0);
        Check.due("undo()", x.undo(), 0);
        Check.due("keep(0)", x.keep(0), 0);
        Check.due("again(0)", x.again(0), 0);
        Check.due("again(1)", x.again(1), STATE);
        Check.due("come(1)", x.come(1), 0);
        Check.due("it gets nothing", x.person(0, 2), 0);
    }

    // ---- promise 2

    private static void write() {
        Doc.fromPromise(2);
        fromOneToEightBytes();
        theLowestTheHighestFirst();
        behindTheText();
        writeOutside();
        writeFull();
        Doc.allIsNamed();
    }

    private static void fromOneToEightBytes() {
        Doc.says("n bytes (1 to 8) of v,");
        for (int n = 1; n <= 8; n++) {
            RightIfAsMany x = new RightIfAsMany();
            Check.due("write(" + n + ", 0)", x.write(n, 0), n);
            Check.due("count(0)", x.count(0), n);
        }
    }

    private static void theLowestTheHighestFirst() {
        Doc.says("the lowest n, the highest of these first,");
        String text = "T21999P9";
        long v = Check.bytes(text);
        for (int n = 1; n <= 8; n++) {
            // Above the lowest n bytes there are others, and they do not count.
            RightIfAsMany x = new RightIfAsMany();
            Check.write(x, text.substring(0, 8 - n));
            Check.due("write(" + n + ", ..)", x.write(n, v), 8);
            Check.due("the text is a table", x.table(), 1);
            Check.due("POT", x.count(6), 999);
        }
        RightIfAsMany x = new RightIfAsMany();
        Check.due("a highest byte above 127", x.write(8, 0x8030303030303030L), 8);
        Check.due("its place is the first", x.fault(), 0);
        x.wipe();
        Check.due("only ones", x.write(1, -1), 1);
        Check.due("a byte of 255", x.fault(), 0);
        x.wipe();
        Check.due("T in the lowest byte", x.write(1, 0xffffffffffffff54L), 1);
        Check.due("T", x.fault(), 1);
        x.wipe();
        Check.due("T in the second byte, and a figure", x.write(2, 0xffffffffffff5430L), 2);
        Check.due("T0", x.fault(), 2);
    }

    private static void behindTheText() {
        Doc.says("come behind THE TEXT: how long it is.");
        RightIfAsMany x = new RightIfAsMany();
        int length = 0;
        for (int n = 1; n <= 8; n++) {
            length += n;
            Check.due("write(" + n + ", 0)", x.write(n, 0), length);
        }
        Check.due("write(4, 0)", x.write(4, 0), 40);
        Check.due("write(1, 0)", x.write(1, 0), FULL);
    }

    private static void writeOutside() {
        Doc.says("OUTSIDE;");
        Twin.beyondByAll("write(.., T)", 1, 8, (x, n) -> x.write(n, 'T'), OUTSIDE);
    }

    private static void writeFull() {
        Doc.says("FULL: it would be longer than 40 (nothing comes).");
        for (int n = 1; n <= 8; n++) {
            int bytes = n;
            Twin.refused("write(" + n + ", ..) behind 40", Twin::full, x -> x.write(bytes, 'P'), FULL);
            RightIfAsMany x = new RightIfAsMany();
            for (int length = 0; length < 40 - n; length++) {
                x.write(1, 'T');
            }
            if (n < 8) {
                Check.due("write(" + (n + 1) + ", ..) behind " + (40 - n), x.write(n + 1, 'T'), FULL);
                Check.due("nothing comes", x.count(0), 40 - n);
            }
            Check.due("write(" + n + ", ..) behind " + (40 - n), x.write(n, 'T'), 40);
        }
        // Of nine bytes that do not fit none comes, so the text is still a table.
        RightIfAsMany x = Check.told("T20999N0N1N2N3N4N5N6N7P8P9P8P9P8P9P8P9");
        Check.due("write(3, P9P)", x.write(3, Check.bytes("P9P")), FULL);
        Check.due("table()", x.table(), 8);
        Check.due("write(2, P9)", x.write(2, Check.bytes("P9")), 40);
        Check.due("table()", x.table(), 9);
    }

    // ---- promise 3

    private static void wipe() {
        Doc.fromPromise(3);
        Doc.says("THE TEXT is empty: how long it was.");
        RightIfAsMany x = new RightIfAsMany();
        Check.due("wipe() of nothing", x.wipe(), 0);
        x.write(1, 'T');
        Check.due("wipe() of one byte", x.wipe(), 1);
        Check.due("count(0)", x.count(0), 0);
        RightIfAsMany full = Twin.full();
        Check.due("wipe() of forty", full.wipe(), 40);
        Check.due("fault()", full.fault(), 0);
        Check.due("THE TABLE stays", full.count(1), 9);
        Check.due("ACTS stay", full.count(4), 16);
        for (int length = 8; length <= 40; length += 8) {
            Check.due("write(8, ..)", full.write(8, 0), length);
        }
        Check.due("wipe() of forty", full.wipe(), 40);
        Check.due("wipe() once more", full.wipe(), 0);
        Doc.allIsNamed();
    }

    // ---- promise 4

    private static void fault() {
        Doc.fromPromise(4);
        Doc.says("FAULT; NONE.");
        RightIfAsMany x = new RightIfAsMany();
        Check.due("fault() of nothing", x.fault(), 0);
        String text = "T00000N1P2";
        for (int length = 1; length <= text.length(); length++) {
            x.write(1, text.charAt(length - 1));
            Check.due("fault() behind " + length, x.fault(), length >= 6 && length % 2 == 0 ? NONE : length);
        }
        x.write(1, 'N');
        x.write(1, '2');
        Check.due("fault() of what was written", x.fault(), 11);
        x.write(8, Check.bytes("P1P1P1P1"));
        Check.due("fault() stays at the first", x.fault(), 11);
        Check.due("fault() is asked once more", x.fault(), 11);
        x.wipe();
        Check.due("fault() of nothing again", x.fault(), 0);
        Twin.refused("fault() changes nothing", Twin::busy, RightIfAsMany::fault, NONE);
        Doc.allIsNamed();
    }

    // ---- promise 5

    private static void table() {
        Doc.fromPromise(5);
        theTextIsTheTable();
        rowAndKeptAreGone();
        tenthsPaidSeedStay();
        howManyPeople();
        tableOfAFault();
        Doc.allIsNamed();
    }

    private static void theTextIsTheTable() {
        Doc.says("THE TEXT is THE TABLE");
        RightIfAsMany x = Check.told("T21999N0N9P1");
        Check.tell(x, "T00000");
        for (int what = 1; what <= 9; what++) {
            Check.due("all of the last one is gone: count(" + what + ")", x.count(what), 0);
        }
        Check.due("THE TEXT stays", x.count(0), 6);
        x.come(5);
        Check.due("the same text once more", x.table(), 0);
        Check.due("whoever came is gone", x.count(1), 0);
    }

    private static void rowAndKeptAreGone() {
        Doc.says("(THE ROW of ACTS is empty, what was kept is gone;");
        RightIfAsMany x = Twin.full();
        Check.due("table()", x.table(), 9);
        Check.due("ACTS", x.count(4), 0);
        Check.due("undo()", x.undo(), STATE);
        Check.due("again(0)", x.again(0), STATE);
        Check.due("again(1)", x.again(1), STATE);
        Check.due("keep(0)", x.keep(0), 9);
        Check.due("again(0)", x.again(0), 9);
        Check.due("again(1)", x.again(1), STATE);
    }

    private static void tenthsPaidSeedStay() {
        Doc.says("TENTHS, PAID, THE SEED stay)");
        RightIfAsMany x = Twin.full();
        x.tenths(0, 10);
        Check.due("table()", x.table(), 9);
        Check.due("PAID", x.count(5), 12);
        Check.due("pay(0, 0)", x.pay(0, 0), FULL);
        Check.due("THE SEED", x.seed(0), Long.MIN_VALUE);
        Check.due("TENTHS of 0", x.tenths(0, 0), 10);
        Check.due("TENTHS of 1", x.tenths(1, 0), 10);
        Check.due("CHEATED by what was PAID", Check.told("T00000").cheated(), NONE);
        RightIfAsMany busy = Twin.busy();
        Check.due("PAID otherwise by the first table", busy.cheated(), 2);
        Check.due("table()", busy.table(), 2);
        Check.due("PAID 27 of 27 by the second table", busy.cheated(), NONE);
        busy.slip(0, 9);
        busy.leave(1);
        Check.due("PAID 27 of 55", busy.cheated(), 0);
    }

    private static void howManyPeople() {
        Doc.says(": how many PEOPLE.");
        StringBuilder text = new StringBuilder("T00000");
        for (int people = 0; people <= 9; people++) {
            RightIfAsMany x = new RightIfAsMany();
            Check.write(x, text.toString());
            Check.due("table() of " + text, x.table(), people);
            Check.due("count(1)", x.count(1), people);
            text.append("P5");
        }
    }

    private static void tableOfAFault() {
        Doc.says("STATE: a FAULT.");
        Twin.refused("table() of no text", RightIfAsMany::new, RightIfAsMany::table, STATE);
        for (String more : new String[] {"P", "N5", "P5", "T", "PP", "N"}) {
            Twin.refused("table() of a text with " + more + " behind it", () -> {
                RightIfAsMany x = Twin.busy();
                Check.due("write", x.write(more.length(), Check.bytes(more)), 12 + more.length());
                return x;
            }, RightIfAsMany::table, STATE);
        }
        Twin.refused("table() of a text that was wiped", () -> {
            RightIfAsMany x = Twin.full();
            x.wipe();
            return x;
        }, RightIfAsMany::table, STATE);
    }

    // ---- promise 6

    private static void person() {
        Doc.fromPromise(6);
        whatAPersonWrote();
        whetherItIsRight();
        whatItGets();
        whatItWants();
        personRefused();
        Doc.allIsNamed();
    }

    private static void duePerson(String table, int what, int... want) {
        RightIfAsMany x = Check.told(table);
        for (int person = 0; person < want.length; person++) {
            Check.due(table + ": person(" + person + ", " + what + ")", x.person(person, what), want[person]);
        }
    }

    private static void whatAPersonWrote() {
        Doc.says("What a PERSON wrote (what = 0),");
        duePerson("T00000P0P9P1P8P2P7P3P6P4", 0, 0, 9, 1, 8, 2, 7, 3, 6, 4, UNKNOWN);
    }

    private static void whetherItIsRight() {
        Doc.says("whether it is RIGHT (1: 1, 0),");
        duePerson("T00000P2P1P2P0P3P3P3P3P0", 1, 1, 1, 1, 0, 0, 0, 0, 0, 0, UNKNOWN);
        duePerson("T10000P2P1P2P0P3P3P3P3P0", 1, 1, 1, 1, 1, 1, 1, 1, 1, 1, UNKNOWN);
        duePerson("T20000P2P1P2P0P3P3P3P3P0", 1, 1, 1, 1, 0, 0, 0, 0, 0, 0, UNKNOWN);
    }

    private static void whatItGets() {
        Doc.says("what it gets (2),");
        duePerson("T00999P1P0", 2, 999, 0, UNKNOWN);
        duePerson("T00002P1P2P2", 2, 0, 0, 0, UNKNOWN);
        duePerson("T00003P1P2P2", 2, 1, 1, 1, UNKNOWN);
        duePerson("T21999P9P9P9P9P9P9P9P9P9", 2, 111, 111, 111, 111, 111, 111, 111, 111, 111, UNKNOWN);
        duePerson("T11999P0", 2, 0, UNKNOWN);
    }

    private static void whatItWants() {
        Doc.says("what it WANTS to write (3).");
        duePerson("T00000P0P9", 3, 0, 9, UNKNOWN);
        duePerson("T00100P0", 3, 1, UNKNOWN);
        duePerson("T00100N1P0", 3, 0, UNKNOWN);
        duePerson("T21100P0P0P0P0P0P0P0P0P0", 3, 1, 1, 1, 1, 1, 1, 1, 1, 1, UNKNOWN);
        duePerson("T21100P0P9", 3, 9, 9, UNKNOWN);
        duePerson("T20999P9P9P9P9P9P9P9P9P9", 3, 9, 9, 9, 9, 9, 9, 9, 9, 9, UNKNOWN);
    }

    private static void personRefused() {
        Doc.says("UNKNOWN; OUTSIDE.");
        for (int what = -1; what <= 4; what++) {
            int asked = what;
            Twin.refused("person(0, " + what + ") of nobody", RightIfAsMany::new, x -> x.person(0, asked), UNKNOWN);
            Twin.beyond("person(.., " + what + ")", Twin::busy, 0, 3, (x, person) -> x.person(person, asked), UNKNOWN);
            Twin.beyond("person(.., " + what + ")", Twin::full, 0, 8, (x, person) -> x.person(person, asked), UNKNOWN);
        }
        Twin.beyond("person(0, ..)", Twin::busy, 0, 3, (x, what) -> x.person(0, what), OUTSIDE);
        Twin.beyond("person(8, ..)", Twin::full, 0, 3, (x, what) -> x.person(8, what), OUTSIDE);
    }

    // ---- promise 7

    private static void wrote() {
        Doc.fromPromise(7);
        howManyWroteANumber();
        wroteOutside();
        Doc.allIsNamed();
    }

    private static void howManyWroteANumber() {
        Doc.says("How many wrote a number (0 to 9).");
        RightIfAsMany x = new RightIfAsMany();
        RightIfAsMany some = Check.told("T00000N5P0P9P9P0P1P9P8P9P9");
        int[] want = {2, 1, 0, 0, 0, 0, 0, 0, 1, 5};
        for (int number = 0; number <= 9; number++) {
            Check.due("wrote(" + number + ") of nobody", x.wrote(number), 0);
            Check.due("wrote(" + number + ")", some.wrote(number), want[number]);
            RightIfAsMany nine = Check.told("T00000" + ("P" + number).repeat(9));
            Check.due("wrote(" + number + ") of nine", nine.wrote(number), 9);
            Check.due("wrote of another", nine.wrote((number + 1) % 10), 0);
        }
    }

    private static void wroteOutside() {
        Doc.says("OUTSIDE.");
        Twin.beyondByAll("wrote", 0, 9, RightIfAsMany::wrote, OUTSIDE);
    }

    // ---- promise 8

    private static void slip() {
        Doc.fromPromise(8);
        writesAnew();
        slipUnknown();
        slipOutside();
        slipBarred();
        Doc.allIsNamed();
    }

    private static void writesAnew() {
        Doc.says("A PERSON writes d anew: what it wrote.");
        RightIfAsMany x = Check.told("T00000P0P1P2P3P4P5P6P7P8");
        Check.due("slip(0, 9)", x.slip(0, 9), 0);
        Check.due("slip(8, 0)", x.slip(8, 0), 8);
        Check.duePeople("slips of the first and the last", x, "912345670");
        Check.due("slip(4, 4)", x.slip(4, 4), 4);
        Check.due("a slip of the same number is an ACT", x.count(4), 3);
        Check.due("wrote(9)", x.wrote(9), 1);
        Check.due("wrote(0)", x.wrote(0), 1);
        Check.due("wrote(8)", x.wrote(8), 0);
        Check.due("undo()", x.undo(), 2);
        Check.due("undo()", x.undo(), 1);
        Check.duePeople("the slip of the last one is undone", x, "912345678");
    }

    private static void slipUnknown() {
        Doc.says("UNKNOWN;");
        for (int d : new int[] {-1, 0, 7, 9, 10}) {
            Twin.beyond("slip(.., " + d + ")", RightIfAsMany::new, 0, -1, (x, person) -> x.slip(person, d), UNKNOWN);
            Twin.beyond("slip(.., " + d + ")", Twin::busy, 0, 3, (x, person) -> x.slip(person, d), UNKNOWN);
            Twin.beyond("slip(.., " + d + ")", Twin::full, 0, 8, (x, person) -> x.slip(person, d), UNKNOWN);
        }
    }

    private static void slipOutside() {
        Doc.says("OUTSIDE: d;");
        Twin.beyond("slip(0, ..)", Twin::busy, 0, 9, (x, d) -> x.slip(0, d), OUTSIDE);
        Twin.beyond("slip(8, ..)", Twin::full, 0, 9, (x, d) -> x.slip(8, d), OUTSIDE);
    }

    private static void slipBarred() {
        Doc.says("STATE: it is BARRED.");
        for (int d = 0; d <= 9; d++) {
            int number = d;
            if (d == 4 || d == 7) {
                Twin.refused("slip(3, " + d + ")", Twin::busy, x -> x.slip(3, number), STATE);
            } else {
                Check.due("slip(3, " + d + ")", Twin.busy().slip(3, d), 3);
            }
            if (d < 8) {
                Twin.refused("slip(0, " + d + ")", Twin::full, x -> x.slip(0, number), STATE);
            }
        }
    }

    // ---- promise 9

    private static void come() {
        Doc.fromPromise(9);
        comesBehindTheOthers();
        comeOutside();
        comeBarred();
        comeFull();
        Doc.allIsNamed();
    }

    private static void comesBehindTheOthers() {
        Doc.says("A PERSON comes (behind the others) that writes d: its number.");
        RightIfAsMany x = new RightIfAsMany();
        for (int person = 0; person < 9; person++) {
            Check.due("come(" + (9 - person) + ")", x.come(9 - person), person);
            Check.due("ACTS", x.count(4), person + 1);
        }
        Check.duePeople("nine came", x, "987654321");
        x.leave(0);
        Check.due("come(0)", x.come(0), 8);
        Check.duePeople("one left, one came", x, "876543210");
    }

    private static void comeOutside() {
        Doc.says("OUTSIDE: d;");
        Twin.beyondByAll("come", 0, 9, RightIfAsMany::come, OUTSIDE);
    }

    private static void comeBarred() {
        Doc.says("STATE: it is BARRED;");
        for (int d = 0; d <= 9; d++) {
            int number = d;
            if (d == 4 || d == 7) {
                Twin.refused("come(" + d + ")", Twin::busy, x -> x.come(number), STATE);
            } else {
                Check.due("come(" + d + ")", Twin.busy().come(d), 4);
            }
            if (d < 8) {
                Twin.refused("come(" + d + "), the tenth", Twin::full, x -> x.come(number), STATE);
            }
        }
    }

    private static void comeFull() {
        Doc.says("FULL: 9.");
        Twin.refused("come(8), the tenth", Twin::full, x -> x.come(8), FULL);
        Twin.refused("come(9), the tenth", Twin::full, x -> x.come(9), FULL);
        RightIfAsMany x = Check.told("T00000P1P1P1P1P1P1P1P1");
        Check.due("come(1), the ninth", x.come(1), 8);
        Check.due("come(1), the tenth", x.come(1), FULL);
        Check.due("ACTS", x.count(4), 1);
        x.leave(8);
        Check.due("come(1), the ninth again", x.come(1), 8);
    }

    // ---- promise 10

    private static void leave() {
        Doc.fromPromise(10);
        leavesAndThoseBehind();
        leaveUnknown();
        Doc.allIsNamed();
    }

    private static void leavesAndThoseBehind() {
        Doc.says("A PERSON leaves (those behind it are one less): what it wrote.");
        RightIfAsMany x = Check.told("T00000P1P2P3P4P5P6P7P8P9");
        Check.due("leave(0)", x.leave(0), 1);
        Check.duePeople("the first one left", x, "23456789");
        Check.due("leave(7)", x.leave(7), 9);
        Check.duePeople("the last one left", x, "2345678");
        Check.due("leave(3)", x.leave(3), 5);
        Check.duePeople("one between them left", x, "234678");
        for (int left = 5; left >= 0; left--) {
            x.leave(0);
            Check.due("PEOPLE", x.count(1), left);
        }
        Check.due("leave(0) of nobody", x.leave(0), UNKNOWN);
        Check.due("ACTS", x.count(4), 9);
    }

    private static void leaveUnknown() {
        Doc.says("UNKNOWN.");
        Twin.beyond("leave", RightIfAsMany::new, 0, -1, RightIfAsMany::leave, UNKNOWN);
        Twin.beyond("leave", BoundCallsTest::nobody, 0, -1, RightIfAsMany::leave, UNKNOWN);
        Twin.beyond("leave", Twin::busy, 0, 3, RightIfAsMany::leave, UNKNOWN);
        Twin.beyond("leave", Twin::full, 0, 8, RightIfAsMany::leave, UNKNOWN);
    }

    // ---- promise 11

    private static void round() {
        Doc.fromPromise(11);
        Doc.says("A ROUND: how many wrote anew another number.");
        RightIfAsMany nobody = new RightIfAsMany();
        Check.due("round() of nobody", nobody.round(), 0);
        Check.due("it is an ACT", nobody.count(4), 1);
        Check.due("all are RIGHT", Check.told("T00000P1P2P2").round(), 0);
        Check.due("one is not", Check.told("T00000P1P2").round(), 0);
        Check.due("one is not, and finds another", Check.told("T00000P1P2P0").round(), 1);
        Check.due("none is RIGHT", Check.told("T00000P0P0P0P0P0P0P0P0P0").round(), 9);
        Check.due("none is RIGHT, none finds another", Check.told("T00000P1P1P1P1P1P1P1P1P1").round(), 0);
        RightIfAsMany full = Twin.full();
        Check.due("ACTS", full.count(4), 16);
        full.round();
        Check.due("ACTS stay sixteen", full.count(4), 16);
        Doc.allIsNamed();
    }

    // ---- promise 12

    private static void undo() {
        Doc.fromPromise(12);
        howManyAreLeft();
        undoOfNone();
        Doc.allIsNamed();
    }

    private static void howManyAreLeft() {
        Doc.says("The last ACT is undone: how many are left.");
        RightIfAsMany x = Twin.full();
        for (int left = 15; left >= 0; left--) {
            Check.due("undo()", x.undo(), left);
            Check.due("count(4)", x.count(4), left);
        }
        Check.due("undo()", x.undo(), STATE);
        RightIfAsMany one = Check.told("T00000P1");
        one.slip(0, 2);
        Check.due("undo() of one", one.undo(), 0);
        Check.due("it wrote 1", one.person(0, 0), 1);
        Check.due("what is undone can't be undone", one.undo(), STATE);
        Check.due("it wrote 1 still", one.person(0, 0), 1);
    }

    private static void undoOfNone() {
        Doc.says("STATE: there is none.");
        Twin.refused("undo() of a new object", RightIfAsMany::new, RightIfAsMany::undo, STATE);
        Twin.refused("undo() behind table()", () -> Check.told("T21999N1P2P2"), RightIfAsMany::undo, STATE);
        Twin.refused("undo() behind again()", () -> {
            RightIfAsMany x = Twin.busy();
            x.again(1);
            return x;
        }, RightIfAsMany::undo, STATE);
        Twin.refused("undo() behind the last undo()", () -> {
            RightIfAsMany x = Check.told("T21999N1P2P2");
            x.come(3);
            x.undo();
            return x;
        }, RightIfAsMany::undo, STATE);
        Twin.refused("undo() behind refused acts", () -> {
            RightIfAsMany x = Check.told("T21999N1P2P2");
            x.come(1);
            x.slip(2, 2);
            x.leave(2);
            return x;
        }, RightIfAsMany::undo, STATE);
    }

    // ---- promise 13

    private static void settled() {
        Doc.fromPromise(13);
        Doc.says("SETTLED; NONE.");
        Twin.refused("settled() of a new object", RightIfAsMany::new, RightIfAsMany::settled, 0);
        Twin.refused("settled() of a full object", Twin::full, RightIfAsMany::settled, 0);
        Twin.refused("settled() of a busy object", Twin::busy, RightIfAsMany::settled, 0);
        Twin.refused("settled() behind one ROUND", () -> Check.told("T00000P0"), RightIfAsMany::settled, 1);
        Twin.refused("settled() behind two ROUNDS", () -> Check.told("T00000P3P3P1P1"), RightIfAsMany::settled, 2);
        Twin.refused("settled() of those that never rest",
            () -> Check.told("T20000N0N2N4N5N6N7N8N9P1P1P1P1"), RightIfAsMany::settled, NONE);
        Doc.allIsNamed();
    }
}
