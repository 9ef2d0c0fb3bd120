import java.util.Random;

/** All promises: long runs of calls, right and wrong ones, each held against the slow model. */
public final class ModelTest {
    private static final int RUNS = 7500;
    /** No object is used for more calls than the document promises. */
    private static final int CALLS = 512;
    /** What one turn of a run can take: a text byte by byte, and all looked at, then and at the end. */
    private static final int CALLS_OF_A_TURN = 110;
    /** Rows that the slow model may try for one call. */
    private static final double DEAR = 12000;

    private final Random random;
    private final RightIfAsMany x = new RightIfAsMany();
    private final SlowModel y = new SlowModel();
    private final String run;
    private int calls = 0;

    private ModelTest(int run) {
        this.random = new Random(run);
        this.run = "run " + run + ": ";
    }

    public static void main(String[] args) {
        for (int run = 0; run < RUNS && Check.allAsDue(); run++) {
            new ModelTest(run).go();
        }
        Check.end();
    }

    private void go() {
        while (calls <= CALLS - CALLS_OF_A_TURN && Check.allAsDue()) {
            if (random.nextInt(40) == 0) {
                tellTable();
            } else {
                anyCall(random.nextInt(31));
            }
            if (random.nextInt(40) == 0) {
                same();
            }
        }
        same();
        Check.holds(run + calls + " calls", calls <= CALLS);
    }

    private void same() {
        for (int what = 0; what <= 9; what++) {
            due("count", what, 0, x.count(what), y.count(what));
        }
        for (int person = 0; person <= 9; person++) {
            due("person", person, 0, x.person(person, 0), y.person(person, 0));
            due("wrote", person, 0, x.wrote(person), y.wrote(person));
        }
    }

    private void due(String call, long a, long b, long got, long want) {
        calls++;
        Check.due(run + call + "(" + a + ", " + b + ")", got, want);
    }

    /** Mostly within the bounds, at times at or beyond them. */
    private int about(int least, int most) {
        switch (random.nextInt(24)) {
            case 0:
                return least - 1;
            case 1:
                return most + 1;
            case 2:
                return random.nextBoolean() ? Integer.MIN_VALUE : Integer.MAX_VALUE;
            case 3:
                return random.nextInt();
            case 4:
                return random.nextBoolean() ? least : most;
            default:
                return least + random.nextInt(most - least + 1);
        }
    }

    private int aboutPerson() {
        return about(0, Math.max(0, y.count(1) - 1));
    }

    private void writeBoth(int n, long v) {
        due("write", n, v, x.write(n, v), y.write(n, v));
    }

    /** A text that is a table, or nearly one. */
    private void tellTable() {
        due("wipe", 0, 0, x.wipe(), y.wipe());
        StringBuilder text = new StringBuilder("T");
        text.append(random.nextInt(3)).append(random.nextInt(2));
        String pot = String.valueOf(1000 + random.nextInt(1000)).substring(1);
        text.append(random.nextInt(8) == 0 ? "000" : pot);
        int parts = random.nextInt(18);
        int bars = random.nextInt(4);
        for (int i = 0; i < parts; i++) {
            String longer = text + (random.nextInt(4) < bars ? "N" : "P") + random.nextInt(10);
            if (SlowModel.isTable(longer) || random.nextInt(60) == 0) {
                text.setLength(0);
                text.append(longer);
            }
        }
        if (random.nextInt(6) == 0) {
            text.setLength(random.nextInt(text.length() + 1));
        }
        if (random.nextInt(6) == 0) {
            text.append("TNP0123456789/:\u0000\u00ff\u00b0".charAt(random.nextInt(18)));
        }
        for (int from = 0; from < text.length();) {
            int n = Math.min(text.length() - from, 1 + random.nextInt(8));
            writeBoth(n, Check.bytes(text.substring(from, from + n)) | (n < 8 ? random.nextLong() << 8 * n : 0));
            from += n;
        }
        due("fault", 0, 0, x.fault(), y.fault());
        due("table", 0, 0, x.table(), y.table());
    }

    private boolean isDear(int numbers, int n) {
        return n >= 0 && n <= 9 && Math.pow(numbers, n) > DEAR;
    }

    private void anyCall(int which) {
        if (which < 15) {
            callOfTableOrActs(which);
        } else if (which < 22) {
            callOfRowsOrChances(which);
        } else {
            callOfTheRest(which);
        }
    }

    private void callOfTableOrActs(int which) {
        int person = aboutPerson();
        int d = about(0, 9);
        int what = about(0, 3);
        switch (which) {
            case 0: writeBoth(about(1, 8), random.nextLong()); break;
            case 1: due("fault", 0, 0, x.fault(), y.fault()); break;
            case 2: due("table", 0, 0, x.table(), y.table()); break;
            case 3: due("person", person, what, x.person(person, what), y.person(person, what)); break;
            case 4: due("person", person, 2, x.person(person, 2), y.person(person, 2)); break;
            case 5: due("person", person, 3, x.person(person, 3), y.person(person, 3)); break;
            case 6: due("wrote", d, 0, x.wrote(d), y.wrote(d)); break;
            case 7: case 8: due("slip", person, d, x.slip(person, d), y.slip(person, d)); break;
            case 9: case 10: due("come", d, 0, x.come(d), y.come(d)); break;
            case 11: due("leave", person, 0, x.leave(person), y.leave(person)); break;
            case 12: due("round", 0, 0, x.round(), y.round()); break;
            case 13: due("undo", 0, 0, x.undo(), y.undo()); break;
            default: due("settled", 0, 0, x.settled(), y.settled()); break;
        }
    }

    private void callOfRowsOrChances(int which) {
        int n = about(0, 9);
        int people = y.count(1);
        boolean dear = isDear(y.openMany(), n);
        boolean dearToWrite = isDear(y.written().size(), n);
        int person = aboutPerson();
        int tenths = about(0, 10);
        boolean upper = random.nextBoolean();
        switch (which) {
            case 15: if (!dear) { due("ways", n, 0, x.ways(n), y.ways(n)); } break;
            case 16: if (!dear) { due("wrong", n, 0, x.wrong(n), y.wrong(n)); } break;
            case 17:
                if (!isDear(y.openMany(), people)) { due("agreed", person, 0, x.agreed(person), y.agreed(person)); }
                break;
            case 18: if (!isDear(y.openMany(), people + 1)) { due("late", 0, 0, x.late(), y.late()); } break;
            case 19: tenthsOrChances(n, upper, dearToWrite); break;
            case 20: case 21:
                due("forget", person, tenths, x.forget(person, tenths, upper), y.forget(person, tenths, upper));
                break;
            default: break;
        }
    }

    /** Tenths that are ten together are hardly met by chance: often they are made so. */
    private void tenthsOrChances(int n, boolean upper, boolean dear) {
        int number = about(0, 9);
        int t = about(0, 10);
        if (random.nextInt(3) == 0) {
            due("tenths", number, t, x.tenths(number, t), y.tenths(number, t));
        } else if (random.nextInt(3) == 0) {
            int[] all = new int[10];
            int kinds = 1 + random.nextInt(4);
            for (int i = 0; i < 10; i++) {
                all[random.nextInt(kinds) * 7 % 10]++;
            }
            int turn = random.nextInt(10);
            for (int i = 0; i < 10; i++) {
                int of = (i + turn) % 10;
                due("tenths", of, all[i], x.tenths(of, all[i]), y.tenths(of, all[i]));
            }
        } else if (!dear) {
            due("allRight", n, 0, x.allRight(n, upper), y.allRight(n, upper));
            due("mean", n, 0, x.mean(n, upper), y.mean(n, upper));
        }
    }

    private void callOfTheRest(int which) {
        int person = aboutPerson();
        int anybody = about(0, 8);
        int amount = random.nextInt(3) > 0 ? Math.max(0, y.person(anybody, 2)) : about(0, 999);
        int n = random.nextInt(20) == 0 ? about(0, 4) : about(0, 2);
        int m = about(1, 40);
        int slot = about(0, 1);
        long v = random.nextLong() >> random.nextInt(64);
        int what = about(0, 9);
        switch (which) {
            case 22: if (!isDear(y.openMany(), n)) { due("rests", n, 0, x.rests(n), y.rests(n)); } break;
            case 23: due("pay", anybody, amount, x.pay(anybody, amount), y.pay(anybody, amount)); break;
            case 24: if (random.nextInt(8) == 0) { due("unpay", 0, 0, x.unpay(), y.unpay()); } break;
            case 25: due("cheated", 0, 0, x.cheated(), y.cheated()); break;
            case 26: due("seed", v, 0, x.seed(v), y.seed(v)); break;
            case 27: due("won", person, m, x.won(person, m), y.won(person, m)); break;
            case 28: due("keep", slot, 0, x.keep(slot), y.keep(slot)); break;
            case 29: due("again", slot, 0, x.again(slot), y.again(slot)); break;
            default: due("count", what, 0, x.count(what), y.count(what)); break;
        }
    }
}
