/** The boundaries of 'Terms', the refusals and part 1: each sentence has a test of its own. */
public final class BoundTextTest {
    private static final int UNKNOWN = -1, OUTSIDE = -2, STATE = -3, FULL = -4, NONE = -9;
    private static final String NINE_BARRED = "N0N1N2N3N4N5N6N7N8";
    private static final String NINE_PEOPLE = "P9P9P9P9P9P9P9P9P9";

    public static void main(String[] args) {
        Doc.open(args);
        refusals();
        theText();
        theFault();
        whoIsRight();
        theActs();
        Check.end();
    }

    private static void refusals() {
        Doc.from("REFUSALS, of several", "==== 1");
        theFirstRefusalThatACallNames();
        whatIsRefusedChangesNothing();
        none();
        fractions();
        refusalsOfFractions();
        Doc.allIsNamed();
    }

    private static void theText() {
        Doc.from("==== 1 THE TEXT", "==== 2");
        fortyBytes();
        theHead();
        law();
        share();
        pot();
        parts();
        barredNumber();
        barredTwice();
        nineBarred();
        barredThatWasWritten();
        ninePeople();
        personThatWroteABarredOne();
    }

    private static void theFault() {
        placeOfTheFault();
        whateverCameBehind();
        notAtItsEnd();
        noFault();
        theFirstTable();
    }

    private static void whoIsRight() {
        rightByLaw(0, "A PERSON that wrote d is RIGHT, if of all PEOPLE (itself, too) by LAW 0 just d,");
        rightByLaw(1, "by LAW 1 d at least,");
        rightByLaw(2, "by LAW 2 d at most wrote d.");
        sharedAlike();
        sharedByNumbers();
        sharedByNumbersThatAreNothing();
        othersGetNothing();
    }

    private static void theActs() {
        sixteenActs();
        theLastActIsUndone();
        Doc.allIsNamed();
    }

    private static void dueFault(String text, int want) {
        RightIfAsMany x = new RightIfAsMany();
        Check.write(x, text);
        Check.due("fault() of " + text, x.fault(), want);
        int people = want == NONE ? text.replaceAll("[^P]", "").length() : STATE;
        Check.due("table() of " + text, x.table(), people);
    }

    private static void duePerson(String table, int what, int... want) {
        RightIfAsMany x = Check.told(table);
        for (int person = 0; person < want.length; person++) {
            Check.due(table + ": person(" + person + ", " + what + ")", x.person(person, what), want[person]);
        }
    }

    // ---- refusals

    private static void theFirstRefusalThatACallNames() {
        Doc.says("REFUSALS, of several the first that a call names: UNKNOWN (there is no such PERSON, SLOT), "
            + "OUTSIDE (another number is not as told), STATE (as told), FULL.");
        Twin.refused("write(9, 0) of a full text", Twin::full, x -> x.write(9, 0), OUTSIDE);
        Twin.refused("write(8, 0) of a full text", Twin::full, x -> x.write(8, 0), FULL);
        Twin.refused("person(9, 4)", Twin::full, x -> x.person(9, 4), UNKNOWN);
        Twin.refused("person(8, 4)", Twin::full, x -> x.person(8, 4), OUTSIDE);
        Twin.refused("slip(4, 10)", Twin::busy, x -> x.slip(4, 10), UNKNOWN);
        Twin.refused("slip(4, 7)", Twin::busy, x -> x.slip(4, 7), UNKNOWN);
        Twin.refused("slip(3, 10)", Twin::busy, x -> x.slip(3, 10), OUTSIDE);
        Twin.refused("slip(3, 7)", Twin::busy, x -> x.slip(3, 7), STATE);
        Twin.refused("come(10) as the tenth", Twin::full, x -> x.come(10), OUTSIDE);
        Twin.refused("come(7), BARRED, as the tenth", Twin::full, x -> x.come(7), STATE);
        Twin.refused("come(8) as the tenth", Twin::full, x -> x.come(8), FULL);
        Twin.refused("forget(4, 11, true)", Twin::busy, x -> x.forget(4, 11, true), UNKNOWN);
        Twin.refused("forget(3, 11, true)", Twin::busy, x -> x.forget(3, 11, true), OUTSIDE);
        Twin.refused("won(4, 41)", Twin::busy, x -> x.won(4, 41), UNKNOWN);
        Twin.refused("won(3, 41)", Twin::busy, x -> x.won(3, 41), OUTSIDE);
        Twin.refused("pay(9, 0) as the 13th", Twin::full, x -> x.pay(9, 0), OUTSIDE);
        Twin.refused("pay(8, 1000) as the 13th", Twin::full, x -> x.pay(8, 1000), OUTSIDE);
        Twin.refused("pay(8, 999) as the 13th", Twin::full, x -> x.pay(8, 999), FULL);
        Twin.refused("again(2) where none were kept", RightIfAsMany::new, x -> x.again(2), UNKNOWN);
        Twin.refused("again(1) where none were kept", RightIfAsMany::new, x -> x.again(1), STATE);
        Twin.refused("allRight(10, true) of nine tenths", BoundTextTest::nineTenths, x -> x.allRight(10, true), OUTSIDE);
        Twin.refused("allRight(9, true) of nine tenths", BoundTextTest::nineTenths, x -> x.allRight(9, true), STATE);
        Twin.refused("mean(10, true) of nine tenths", BoundTextTest::nineTenths, x -> x.mean(10, true), OUTSIDE);
        Twin.refused("mean(9, true) of nine tenths", BoundTextTest::nineTenths, x -> x.mean(9, true), STATE);
    }

    private static RightIfAsMany nineTenths() {
        RightIfAsMany x = Twin.busy();
        x.tenths(3, 5);
        return x;
    }

    private static int howManyAreRefused(long... answers) {
        int many = 0;
        for (long answer : answers) {
            many += answer >= FULL && answer <= UNKNOWN ? 1 : 0;
        }
        return many;
    }

    /** One call after the other is refused, and the calls behind all of them show nothing. */
    private static void whatIsRefusedChangesNothing() {
        Doc.says("What is refused changes nothing.");
        Twin.refused("refusals of a full object", Twin::full, x -> howManyAreRefused(
            x.write(1, 0), x.write(0, 0), x.person(9, 0), x.person(0, 4), x.wrote(10),
            x.slip(9, 8), x.slip(0, 10), x.slip(0, 0), x.come(10), x.come(0), x.come(9), x.leave(9),
            x.ways(10), x.wrong(10), x.agreed(9), x.late(),
            x.tenths(10, 0), x.tenths(0, 11), x.allRight(10, true), x.mean(10, false),
            x.forget(9, 0, true), x.forget(0, 11, false), x.rests(5),
            x.pay(9, 0), x.pay(0, 1000), x.pay(0, 0), x.won(9, 1), x.won(0, 0), x.won(0, 41),
            x.keep(2), x.again(2), x.count(10)), 32);
        Twin.refused("refusals of a new object", RightIfAsMany::new, x -> howManyAreRefused(
            x.table(), x.person(0, 0), x.slip(0, 0), x.leave(0), x.undo(), x.agreed(0), x.forget(0, 0, true),
            x.won(0, 1), x.again(0), x.again(1)), 10);
        Twin.refused("table() of a fault", BoundTextTest::busyWithAFault, x -> x.table(), STATE);
    }

    private static RightIfAsMany busyWithAFault() {
        RightIfAsMany x = Twin.busy();
        x.write(1, 'N');
        return x;
    }

    private static void none() {
        Doc.says("NONE is -9.");
        Check.due("NONE", RightIfAsMany.NONE, -9);
        Check.due("cheated() where nothing is PAID", new RightIfAsMany().cheated(), -9);
    }

    private static void fractions() {
        Doc.says("FRACTIONS are told above (upper = true), below (1 and more), in least terms;");
        RightIfAsMany x = Check.told("T00000P1P0P2P2");
        Check.due("a chance of 0, above", x.allRight(2, true), 0);
        Check.due("a chance of 0, below", x.allRight(2, false), 1);
        Check.due("a chance of 1, above", x.allRight(1, true), 1);
        Check.due("a chance of 1, below", x.allRight(1, false), 1);
        Check.due("a mean of 0, above", x.mean(0, true), 0);
        Check.due("a mean of 0, below", x.mean(0, false), 1);
        Check.due("forgetting, 0 above", x.forget(1, 5, true), 0);
        Check.due("forgetting, 0 below", x.forget(1, 5, false), 1);
        Check.due("forgetting, 8 of 10 above", x.forget(0, 2, true), 4);
        Check.due("forgetting, 8 of 10 below", x.forget(0, 2, false), 5);
        Check.due("forgetting, 81 of 100 above", x.forget(2, 1, true), 81);
        Check.due("forgetting, 81 of 100 below", x.forget(2, 1, false), 100);
        RightIfAsMany nine = Check.told("T00000");
        nine.tenths(1, 0);
        nine.tenths(9, 9);
        nine.tenths(0, 1);
        Check.due("a mean above 1, above", nine.mean(9, true), 9L * 387420489);
        Check.due("a mean above 1, below", nine.mean(9, false), 1000000000);
    }

    private static void refusalsOfFractions() {
        Doc.says("refusals of them are told likewise.");
        for (boolean upper : new boolean[] {true, false}) {
            Twin.refusedByAll("allRight(10, " + upper + ")", x -> x.allRight(10, upper), OUTSIDE);
            Twin.refusedByAll("mean(-1, " + upper + ")", x -> x.mean(-1, upper), OUTSIDE);
            Twin.refusedByAll("forget(9, 0, " + upper + ")", x -> x.forget(9, 0, upper), UNKNOWN);
            Twin.refused("forget(0, 11, " + upper + ")", Twin::busy, x -> x.forget(0, 11, upper), OUTSIDE);
            Twin.refused("allRight(0, " + upper + ") of nine tenths", BoundTextTest::nineTenths,
                x -> x.allRight(0, upper), STATE);
            Twin.refused("mean(0, " + upper + ") of nine tenths", BoundTextTest::nineTenths,
                x -> x.mean(0, upper), STATE);
        }
    }

    // ---- 1: the text

    private static void fortyBytes() {
        Doc.says("==== 1 THE TEXT is bytes (40 at most).");
        RightIfAsMany x = new RightIfAsMany();
        for (int length = 1; length <= 40; length++) {
            Check.due("byte " + length, x.write(1, length * 7), length);
        }
        Check.due("byte 41", x.write(1, 0), FULL);
        Check.due("count(0)", x.count(0), 40);
        // The last of forty bytes is read as all others are.
        String forty = "T00000N0N1N2N3N4N5N6N7P8P8P8P8P8P8P8P8P";
        dueFault(forty + "9", NONE);
        dueFault(forty + "7", 39);
        dueFault(forty, 39);
        // Bytes are not signs of seven bits: each of the 256 is another one.
        for (int sign = 0; sign < 256; sign++) {
            RightIfAsMany y = new RightIfAsMany();
            y.write(1, sign);
            Check.due("fault() of byte " + sign, y.fault(), sign == 'T' ? 1 : 0);
        }
    }

    private static void theHead() {
        Doc.says("A TABLE is a TEXT: T, then five figures:");
        dueFault("T00000", NONE);
        dueFault("S00000", 0);
        dueFault("U00000", 0);
        dueFault("t00000", 0);
        dueFault("000000", 0);
        dueFault("T0000", 5);
        dueFault("T0000P1", 5);
        dueFault("T000000", 6);
    }

    private static void law() {
        Doc.says("LAW (0 to 2),");
        for (int law = 0; law <= 2; law++) {
            dueFault("T" + law + "0000", NONE);
            Check.due("the LAW", Check.told("T" + law + "0000").count(7), law);
        }
        dueFault("T30000", 1);
        dueFault("T/0000", 1);
        dueFault("T90000", 1);
        dueFault("T\u00b20000", 1);
    }

    private static void share() {
        Doc.says("SHARE (0, 1),");
        for (int share = 0; share <= 1; share++) {
            dueFault("T0" + share + "000", NONE);
            Check.due("SHARE", Check.told("T0" + share + "000").count(8), share);
        }
        dueFault("T02000", 2);
        dueFault("T0/000", 2);
        dueFault("T09000", 2);
        dueFault("T0-000", 2);
    }

    private static void pot() {
        Doc.says("POT (three figures, 000 to 999);");
        int[] pots = {0, 1, 9, 10, 99, 100, 998, 999};
        for (int pot : pots) {
            String table = "T00" + String.valueOf(1000 + pot).substring(1);
            dueFault(table, NONE);
            Check.due("POT of " + table, Check.told(table).count(6), pot);
        }
        dueFault("T00/00", 3);
        dueFault("T000/0", 4);
        dueFault("T0000/", 5);
        dueFault("T00:00", 3);
        dueFault("T009:9", 4);
        dueFault("T0099:", 5);
        dueFault("T0099", 5);
        dueFault("T009999", 6);
    }

    private static void parts() {
        Doc.says("then PARTS, none or more:");
        dueFault("T00000", NONE);
        dueFault("T00000N0", NONE);
        dueFault("T00000P0", NONE);
        dueFault("T00000N1N2N3N4N5N6N7N8P0P0P0P0P0P0P0P0P0", NONE);
        dueFault("T00000O0", 6);
        dueFault("T00000M0", 6);
        dueFault("T00000Q0", 6);
        dueFault("T00000n0", 6);
        dueFault("T00000p0", 6);
        dueFault("T00000T00000", 6);
    }

    private static void barredNumber() {
        Doc.says("Nd number d (0 to 9) is BARRED");
        for (int d = 0; d <= 9; d++) {
            dueFault("T00000N" + d, NONE);
            RightIfAsMany x = Check.told("T00000N" + d);
            Check.due("BARRED", x.count(3), 1 << d);
            Check.due("come(" + d + ")", x.come(d), STATE);
            Check.due("come(" + (d + 1) % 10 + ")", x.come((d + 1) % 10), 0);
        }
        dueFault("T00000N", 7);
        dueFault("T00000N/", 7);
        dueFault("T00000N:", 7);
        dueFault("T00000NP", 7);
        dueFault("T00000N\u0000", 7);
    }

    private static void barredTwice() {
        Doc.says("(none twice,");
        for (int d = 0; d <= 9; d++) {
            dueFault("T00000N" + d + "N" + d, 9);
            dueFault("T00000N" + d + "N" + (9 - d), NONE);
        }
        dueFault("T00000N3N5P1N5", 13);
        dueFault("T00000N3N5P1N6", NONE);
    }

    private static void nineBarred() {
        Doc.says("nine at most;");
        dueFault("T00000N0N1N2N3N4N5N6N7", NONE);
        dueFault("T00000" + NINE_BARRED, NONE);
        Check.due("BARRED", Check.told("T00000" + NINE_BARRED).count(3), 511);
        dueFault("T00000" + NINE_BARRED + "N", 24);
        dueFault("T00000" + NINE_BARRED + "N9", 24);
        dueFault("T00000" + NINE_BARRED + "N0", 24);
        dueFault("T00000" + NINE_BARRED + "P", 25);
        dueFault("T00000" + NINE_BARRED + "P9", NONE);
        dueFault("T00000" + NINE_BARRED + "P9N", 26);
    }

    private static void barredThatWasWritten() {
        Doc.says("nobody told ahead wrote it)");
        for (int d = 0; d <= 9; d++) {
            dueFault("T00000P" + d + "N" + d, 9);
            dueFault("T00000P" + d + "N" + (9 - d), NONE);
        }
        dueFault("T00000P3P5N5", 11);
        dueFault("T00000P3P5N4P3P5", NONE);
        // Where each number is BARRED or written, N can have no number behind it.
        dueFault("T00000P0P1P2P3P4P5P6P7P8N", 25);
        dueFault("T00000P0P1P2P3P4P5P6P7P8N9", NONE);
        dueFault("T00000P0P1P2P3P4P5P6P7P8N9N", 26);
        dueFault("T00000P1P2P3P4P5P6P7P8P9N", 25);
        dueFault("T00000P1P2P3P4P5P6P7P8P9N0", NONE);
        dueFault("T00000P1P2P3P4P5P6P7P8P9N0N", 26);
        dueFault("T00000N0N1N2N3N4N5N6N7P8N", 25);
        dueFault("T00000N0N1N2N3N4N5N6N7P8P9N", 26);
    }

    private static void ninePeople() {
        Doc.says("Pd a PERSON (9 at most, numbered as they are told)");
        dueFault("T00000P9P9P9P9P9P9P9P9", NONE);
        dueFault("T00000" + NINE_PEOPLE, NONE);
        dueFault("T00000" + NINE_PEOPLE + "P", 24);
        dueFault("T00000" + NINE_PEOPLE + "P9", 24);
        dueFault("T00000" + NINE_PEOPLE + "N", 25);
        dueFault("T00000" + NINE_PEOPLE + "N0", NONE);
        dueFault("T00000" + NINE_PEOPLE + "N0P", 26);
        duePerson("T00000P8P7P6P5P4P3P2P1P0", 0, 8, 7, 6, 5, 4, 3, 2, 1, 0, UNKNOWN);
        duePerson("T00000N9P8N0P1", 0, 8, 1, UNKNOWN);
    }

    private static void personThatWroteABarredOne() {
        Doc.says("that wrote d (that is not BARRED so far)");
        for (int d = 0; d <= 9; d++) {
            dueFault("T00000P" + d, NONE);
            dueFault("T00000N" + d + "P" + d, 9);
            dueFault("T00000N" + d + "P" + (9 - d), NONE);
        }
        dueFault("T00000P", 7);
        dueFault("T00000P/", 7);
        dueFault("T00000P:", 7);
        // It is BARRED behind: then that is the fault.
        dueFault("T00000P4N3P4P3", 13);
        dueFault("T00000P4N4P4", 9);
    }

    // ---- 1: the fault

    private static void placeOfTheFault() {
        Doc.says("FAULT: the place of the first byte by which THE TEXT can be no TABLE,");
        String table = "T21999N0P1";
        for (int place = 0; place < table.length(); place++) {
            dueFault(table.substring(0, place) + "x" + table.substring(place + 1), place);
            dueFault(table.substring(0, place) + "x", place);
        }
        dueFault("x3x", 0);
        dueFault("T3x", 1);
        dueFault("T22", 2);
        dueFault(table + "x", 10);
    }

    private static void whateverCameBehind() {
        Doc.says("whatever came behind it (its length set aside);");
        for (String behind : new String[] {"", "T", "T00000", "P1P1P1", "0", "00000000"}) {
            dueFault("P" + behind, 0);
            dueFault("T3" + behind, 1);
            dueFault("T00000N1P1" + behind, 9);
            dueFault("T00000" + NINE_BARRED + "N" + behind, 24);
        }
        // Forty bytes leave no room for more, yet nothing is missing there.
        dueFault("T00000N0N1N2N3N4N5N6N7P8P8P8P8P8P8P8P8P8", NONE);
        dueFault("T00000N0N1N2N3N4N5N6P8P8P8P8P8P8P8P8P8N", 39);
        dueFault("T00000N0N1N2N3N4N5N6P8P8P8P8P8P8P8P8P8N7", NONE);
    }

    private static void notAtItsEnd() {
        Doc.says("its length, if it is only not at its end;");
        String table = "T21999N0P1";
        for (int length = 0; length <= table.length(); length++) {
            boolean atItsEnd = length >= 6 && length % 2 == 0;
            dueFault(table.substring(0, length), atItsEnd ? NONE : length);
        }
    }

    private static void noFault() {
        Doc.says("NONE: none.");
        dueFault("T00000", NONE);
        dueFault("T21999", NONE);
        dueFault("T21999N9P0", NONE);
        dueFault("", 0);
    }

    private static void theFirstTable() {
        Doc.says("At first THE TABLE is T00000.");
        RightIfAsMany x = new RightIfAsMany();
        RightIfAsMany told = Check.told("T00000");
        for (int what = 1; what <= 9; what++) {
            Check.due("count(" + what + ")", x.count(what), told.count(what));
        }
        Check.due("THE TEXT is empty though", x.count(0), 0);
        for (int n = 0; n <= 9; n++) {
            Check.due("ways(" + n + ")", x.ways(n), told.ways(n));
            Check.due("come(" + n + ")", x.come(n), n < 9 ? n : FULL);
        }
    }

    // ---- 1: who is right, and gets what

    private static void rightByLaw(int law, String words) {
        Doc.says(words);
        for (int d = 0; d <= 9; d++) {
            StringBuilder table = new StringBuilder("T" + law + "0100");
            for (int many = 1; many <= 9; many++) {
                table.append('P').append(d);
                boolean right = law == 0 ? many == d : law == 1 ? many > d - 1 : many < d + 1;
                RightIfAsMany x = Check.told(table.toString());
                Check.due(table + ": the first one", x.person(0, 1), right ? 1 : 0);
                Check.due(table + ": the last one", x.person(many - 1, 1), right ? 1 : 0);
            }
        }
    }

    private static void sharedAlike() {
        Doc.says("Each RIGHT one gets, by SHARE 0, POT by how many are RIGHT, cut;");
        duePerson("T00100P1P0P0", 2, 100, 0, 0);
        duePerson("T00100P1P2P2", 2, 33, 33, 33);
        duePerson("T00099P1P2P2", 2, 33, 33, 33);
        duePerson("T00098P1P2P2", 2, 32, 32, 32);
        duePerson("T00009" + NINE_PEOPLE, 2, 1, 1, 1, 1, 1, 1, 1, 1, 1);
        duePerson("T00008" + NINE_PEOPLE, 2, 0, 0, 0, 0, 0, 0, 0, 0, 0);
        duePerson("T00999" + NINE_PEOPLE, 2, 111, 111, 111, 111, 111, 111, 111, 111, 111);
        duePerson("T00998" + NINE_PEOPLE, 2, 110, 110, 110, 110, 110, 110, 110, 110, 110);
        duePerson("T00000P1", 2, 0);
        duePerson("T00999P1", 2, 999);
        duePerson("T10100P0P0", 2, 50, 50);
    }

    private static void sharedByNumbers() {
        Doc.says("by SHARE 1 POT times its number by the numbers of all RIGHT ones together, cut");
        duePerson("T01100P1P2P2", 2, 20, 40, 40);
        duePerson("T01099P1P2P2", 2, 19, 39, 39);
        duePerson("T01002P1P2P2", 2, 0, 0, 0);
        duePerson("T01003P1P2P2", 2, 0, 1, 1);
        duePerson("T01004P1P2P2", 2, 0, 1, 1);
        duePerson("T01005P1P2P2", 2, 1, 2, 2);
        duePerson("T01999" + NINE_PEOPLE, 2, 111, 111, 111, 111, 111, 111, 111, 111, 111);
        duePerson("T21999P1P9", 2, 99, 899);
        duePerson("T01999P1", 2, 999);
        duePerson("T11100P0P1", 2, 0, 100);
    }

    private static void sharedByNumbersThatAreNothing() {
        Doc.says("(0, if these are 0).");
        duePerson("T11999P0", 2, 0);
        duePerson("T11999P0P0P0P0P0P0P0P0P0", 2, 0, 0, 0, 0, 0, 0, 0, 0, 0);
        duePerson("T11999P0P2", 2, 0, 0);
        duePerson("T11999P0P1", 2, 0, 999);
        Check.due("all of POT is left", Check.told("T11999P0").count(9), 999);
        Check.due("it is RIGHT though", Check.told("T11999P0").count(2), 1);
    }

    private static void othersGetNothing() {
        Doc.says("Others get 0.");
        duePerson("T00100P0", 2, 0);
        duePerson("T00100P2P1P3", 2, 0, 100, 0);
        duePerson("T01100P2P1P3", 2, 0, 100, 0);
        duePerson("T20100P0P1P1", 2, 0, 0, 0);
        duePerson("T10100P9P0", 2, 0, 100);
    }

    // ---- 1: acts

    /** So many acts of a kind: what is left in the row, and who is there when all of it is undone. */
    private static void dueActs(String kind, int acts, String first, String forgotten) {
        RightIfAsMany x = Check.told("T00000" + (kind.equals("come") ? "" : "P5"));
        for (int act = 1; act <= acts; act++) {
            switch (kind) {
                case "slip": x.slip(0, act % 10); break;
                case "round": x.round(); break;
                default: if (act % 2 == 1) { x.come(3); } else { x.leave(0); } break;
            }
            Check.due(kind + ": ACTS behind " + act, x.count(4), Math.min(16, act));
        }
        for (int left = Math.min(16, acts) - 1; left >= 0; left--) {
            Check.due(kind + ": undo()", x.undo(), left);
        }
        Check.due(kind + ": undo() of no more", x.undo(), STATE);
        Check.duePeople(kind + " " + acts + ": all is undone", x, acts > 16 ? forgotten : first);
    }

    private static void sixteenActs() {
        Doc.says("ACTS (slips written anew, PEOPLE that come, that leave, ROUNDS) are a row "
            + "(16 at most; of more the first one is forgotten);");
        for (int acts = 15; acts <= 17; acts++) {
            dueActs("slip", acts, "5", "1");
            dueActs("come", acts, "", "3");
            dueActs("round", acts, "5", "1");
        }
        dueActs("slip", 18, "5", "2");
        dueActs("come", 18, "", "");
        dueActs("slip", 33, "5", "7");
        RightIfAsMany x = Check.told("T00000P5");
        for (int act = 0; act < 20; act++) {
            x.slip(0, 3);
        }
        Check.due("undo() of the sixteenth", x.undo(), 15);
        Check.due("slip(0, 4)", x.slip(0, 4), 3);
        Check.due("the row is full again", x.count(4), 16);
        Check.due("one more", x.slip(0, 4), 4);
        Check.due("the row stays full", x.count(4), 16);
    }

    private static void theLastActIsUndone() {
        Doc.says("the last one can be undone (PEOPLE and what they wrote are as they were).");
        RightIfAsMany x = Check.told("T00000P1P2P3P4P5P6P7P8P9");
        x.leave(0);
        x.undo();
        Check.duePeople("a first one is back at its place", x, "123456789");
        x.leave(8);
        x.undo();
        Check.duePeople("a last one is back at its place", x, "123456789");
        // 1 is right, 2 finds no number, all others would be the second one to write 2.
        Check.due("a ROUND of seven", x.round(), 7);
        Check.duePeople("a ROUND of seven", x, "122222222");
        x.undo();
        Check.duePeople("a ROUND of seven is undone at once", x, "123456789");
        x.slip(4, 5);
        x.undo();
        Check.duePeople("a slip of the same number", x, "123456789");
        Check.due("wrote(5)", x.wrote(5), 1);
        for (int person = 8; person >= 0; person--) {
            x.leave(person);
        }
        x.come(7);
        x.undo();
        Check.duePeople("nobody is there again", x, "");
        x.undo();
        Check.duePeople("one is there again", x, "1");
    }
}
