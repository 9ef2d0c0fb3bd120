import java.io.IOException;
import java.nio.file.Files;
import java.nio.file.Path;
import java.util.ArrayList;
import java.util.List;
import java.util.regex.Matcher;
import java.util.regex.Pattern;

/** The document's first words, clause by clause, and its public face, line by line. */
public final class FaceTest {
    private static final int UNKNOWN = -1, STATE = -3, NONE = -9;
    private static final String ONLY_1 = "N0N2N3N4N5N6N7N8N9";

    public static void main(String[] args) throws IOException {
        Doc.open(args);
        whatItIs();
        Path file = Path.of(args.length > 0 ? args[0] : ".", "src", "main", "java", "RightIfAsMany.java");
        String source = Files.readString(file);
        if (Doc.lines() != null) {
            publicFace(Doc.lines(), source);
            aheadOfTheCalls(Doc.lines(), source);
        }
        Check.end();
    }

    // ---- what it is

    private static void whatItIs() {
        Doc.from("Right if as many wrote it", "An object is used for");
        rightIfAsManyWroteIt();
        aTableToldAsAText();
        howThePotIsShared();
        slipsAndPeople();
        allCanBeRight();
        oneMoreThatComesLate();
        slipsByChances();
        roundByRound();
        whatOneWouldRatherWrite();
        forgettingByChances();
        paymentsThatAreWrong();
        yearsByASeed();
        keptAndGoneOnFrom();
        Doc.allIsNamed();
    }

    /** Two wrote 2, one each wrote 1, 3 and 0; 4 and 9 are barred. */
    private static RightIfAsMany five(String head) {
        return Check.told(head + "N4N9P2P2P1P3P0");
    }

    private static void rightIfAsManyWroteIt() {
        Doc.says("Right if as many wrote it: each of some people writes a number, and those are right of whom "
            + "just so many wrote it (or at least, at most so many);");
        Check.due("just so many: 2, 2 and 1", five("T00000").count(2), 0b00111);
        Check.due("at least so many: 0, too", five("T10000").count(2), 0b10111);
        Check.due("at most so many: 3, but not 0", five("T20000").count(2), 0b01111);
    }

    private static void aTableToldAsAText() {
        Doc.says("a table told as a text with the first fault;");
        RightIfAsMany x = new RightIfAsMany();
        Check.write(x, "T11250N4P4P4X");
        Check.due("fault(): the first one that wrote 4", x.fault(), 9);
        Check.due("table() of a fault", x.table(), STATE);
        Check.due("wipe()", x.wipe(), 13);
        Check.write(x, "T11250N4P5P5");
        Check.due("fault() of none", x.fault(), NONE);
        Check.due("table()", x.table(), 2);
    }

    private static void dueGains(RightIfAsMany x, int left, int... gains) {
        for (int person = 0; person < gains.length; person++) {
            Check.due("what " + person + " gets", x.person(person, 2), gains[person]);
        }
        Check.due("what is left of the pot", x.count(9), left);
    }

    private static void howThePotIsShared() {
        Doc.says("who is right, how the pot is shared, alike or by numbers;");
        Check.due("1 is right", five("T10250").person(2, 1), 1);
        Check.due("3 is not", five("T10250").person(3, 1), 0);
        dueGains(five("T10250"), 2, 62, 62, 62, 0, 62);
        dueGains(five("T11253"), 1, 101, 101, 50, 0, 0);
    }

    private static void slipsAndPeople() {
        Doc.says("slips written anew, people that come and leave, undone;");
        RightIfAsMany x = five("T10250");
        Check.due("slip(3, 2)", x.slip(3, 2), 3);
        Check.due("come(5)", x.come(5), 5);
        Check.due("leave(2)", x.leave(2), 1);
        Check.duePeople("behind three acts", x, "22205");
        Check.due("undo() of the leave", x.undo(), 2);
        Check.duePeople("1 is there again", x, "221205");
        Check.due("undo() of the come", x.undo(), 1);
        Check.due("undo() of the slip", x.undo(), 0);
        Check.duePeople("all is undone", x, "22130");
        Check.due("undo() of nothing", x.undo(), STATE);
    }

    private static void allCanBeRight() {
        Doc.says("in how many ways all can be right, the first of these, the fewest that are wrong;");
        // By law 1 each may write 0 or 1, and two may write 2.
        Check.due("ways(2)", five("T10250").ways(2), 5);
        Check.due("agreed(4)", five("T10250").agreed(4), 0);
        RightIfAsMany x = Check.told("T10000N0N1P5P5P5");
        Check.due("ways(1) of 2 and more", x.ways(1), 0);
        Check.due("ways(3) of 2 and more: 2 2 2 and 3 3 3", x.ways(3), 2);
        Check.due("agreed(2)", x.agreed(2), 2);
        Check.due("wrong(1)", x.wrong(1), 1);
        Check.due("wrong(2)", x.wrong(2), 0);
    }

    private static void oneMoreThatComesLate() {
        Doc.says("one more that comes late;");
        Check.due("both must write 2", Check.told("T10000N0N1P5").late(), 1);
        Check.due("it may write 2", Check.told("T10000N0N1P2P2").late(), 0);
        Check.due("there is no such row", Check.told("T00000" + ONLY_1 + "P1").late(), NONE);
    }

    private static void slipsByChances() {
        Doc.says("slips by chances, how likely all are right, how many in the mean;");
        RightIfAsMany x = five("T10250");
        Check.due("tenths(1, 5)", x.tenths(1, 5), 10);
        Check.due("tenths(3, 5)", x.tenths(3, 5), 0);
        Check.due("both write 1: above", x.allRight(2, true), 1);
        Check.due("both write 1: below", x.allRight(2, false), 4);
        Check.due("each that writes 1 is right: above", x.mean(2, true), 1);
        Check.due("each that writes 1 is right: below", x.mean(2, false), 1);
    }

    private static void roundByRound() {
        Doc.says("corrections round by round, till they rest;");
        RightIfAsMany x = Check.told("T00000P5P2P2P3");
        Check.due("settled()", x.settled(), 1);
        Check.due("round()", x.round(), 2);
        Check.duePeople("each of two would be the only one that wrote 1", x, "1221");
        Check.due("settled()", x.settled(), 0);
        Check.due("round() of those that rest", x.round(), 0);
    }

    private static void whatOneWouldRatherWrite() {
        Doc.says("what one would rather write, slips at rest;");
        Check.due("3 would rather be 1", Check.told("T00100P2P2P3").person(2, 3), 1);
        Check.due("one alone would rather write 1", Check.told("T00100").rests(1), 1);
        Check.due("without a pot it would rather stay", Check.told("T00000").rests(1), 10);
    }

    private static void forgettingByChances() {
        Doc.says("forgetting by chances;");
        RightIfAsMany x = five("T10250");
        Check.due("both that wrote 2 write it: above", x.forget(0, 4, true), 9);
        Check.due("both that wrote 2 write it: below", x.forget(0, 4, false), 25);
        Check.due("the one that wrote 1 writes it: above", x.forget(2, 4, true), 3);
        Check.due("the one that wrote 1 writes it: below", x.forget(2, 4, false), 5);
    }

    private static void paymentsThatAreWrong() {
        Doc.says("payments that are wrong;");
        RightIfAsMany x = five("T11250");
        Check.due("pay(0, 100)", x.pay(0, 100), 1);
        Check.due("it gets 100", x.cheated(), NONE);
        Check.due("pay(2, 49)", x.pay(2, 49), 2);
        Check.due("it gets 50", x.cheated(), 2);
        Check.due("unpay()", x.unpay(), 2);
        Check.due("nothing is wrong", x.cheated(), NONE);
    }

    private static void yearsByASeed() {
        Doc.says("years by a seed;");
        RightIfAsMany x = Check.told("T00100" + ONLY_1 + "P1");
        Check.due("won(0, 2)", x.won(0, 2), 200);
        Check.due("seed(5)", x.seed(5), 1442695040888963407L * 6364136223846793005L + 1442695040888963407L);
        Check.due("nobody else is there", x.won(1, 1), UNKNOWN);
        Check.due("seed(0)", x.seed(0), 5);
    }

    private static void keptAndGoneOnFrom() {
        Doc.says("kept and gone on from.");
        RightIfAsMany x = five("T10250");
        Check.due("keep(1)", x.keep(1), 5);
        x.come(2);
        x.leave(0);
        Check.due("again(1)", x.again(1), 5);
        Check.duePeople("gone on from what was kept", x, "22130");
        Check.due("undo()", x.undo(), STATE);
    }

    // ---- the public face

    private static void publicFace(String document, String source) {
        int from = document.indexOf("```java", document.indexOf("## The public face"));
        String[] told = document.substring(from, document.indexOf("\n}", from)).split("\n");
        List<String> want = new ArrayList<>();
        for (int i = 1; i < told.length; i++) {
            want.add(told[i].strip());
        }
        List<String> got = new ArrayList<>();
        for (String line : source.split("\n")) {
            if (line.matches(" *public .*")) {
                String open = line.strip();
                got.add(open.startsWith("public final class") ? open : open.replace(" {", ";"));
            }
        }
        Check.due("so many lines of the face", got.size(), want.size());
        for (int i = 0; i < Math.min(got.size(), want.size()); i++) {
            Check.holds("'" + got.get(i) + "' stands where '" + want.get(i) + "' is due", got.get(i).equals(want.get(i)));
        }
        Check.holds("the face has the class, constants, constructor and methods", want.size() == 32);
    }

    private static void aheadOfTheCalls(String document, String source) {
        Matcher told = Pattern.compile("Ahead of the calls (.*) the interface says: (---- .*)\\.").matcher(document);
        int sections = 0;
        while (told.find()) {
            sections++;
            String head = "    // " + told.group(2) + "\n";
            int from = source.indexOf(head);
            Check.holds("the class says " + told.group(2), from >= 0);
            int to = source.indexOf("    // ----", from + head.length());
            String part = from < 0 ? "" : source.substring(from, to < 0 ? source.length() : to);
            List<String> calls = new ArrayList<>();
            Matcher call = Pattern.compile("    public \\w+ (\\w+)\\(").matcher(part);
            while (call.find()) {
                calls.add("`" + call.group(1) + "`");
            }
            String got = String.join(", ", calls);
            Check.holds(told.group(2) + " stands ahead of " + got, got.equals(told.group(1)));
        }
        Check.due("sections of the face", sections, 6);
    }
}
