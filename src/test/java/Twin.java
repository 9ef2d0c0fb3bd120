import java.util.List;
import java.util.function.Supplier;
import java.util.function.ToLongFunction;

/**
 * Two objects with the same calls behind them. A call that must change nothing goes to one of them,
 * and all calls behind it must be answered alike by both.
 */
final class Twin {
    /** A call of one number. */
    interface Ask {
        long of(RightIfAsMany x, int n);
    }

    /** Nobody, somebody, as many as there can be: in each of these a refused call must change nothing. */
    static final List<Supplier<RightIfAsMany>> ALL =
        List.of(RightIfAsMany::new, Twin::busy, Twin::full);

    private Twin() {
    }

    /** People 1 2 2 3 of whom the last is not right; 4 and 7 are barred; all else is in use, too. */
    static RightIfAsMany busy() {
        RightIfAsMany x = Check.told("T01137N7N4P1P2P2P3");
        x.slip(0, 5);
        x.keep(0);
        x.come(6);
        x.keep(1);
        x.leave(1);
        x.round();
        x.slip(3, 3);
        x.slip(1, 2);
        x.slip(2, 2);
        x.pay(0, 12);
        x.pay(2, 7);
        x.pay(0, 27);
        x.pay(8, 1);
        x.tenths(1, 4);
        x.tenths(3, 6);
        x.seed(-77);
        x.wipe();
        Check.write(x, "T20055P3P9N5");
        return x;
    }

    /** Nine people, forty bytes, sixteen acts, twelve paid; 0 to 7 are barred. */
    static RightIfAsMany full() {
        RightIfAsMany x = Check.told("T20999N0N1N2N3N4N5N6N7P8P9P8P9P8P9P8P9P9");
        x.keep(0);
        for (int act = 0; act < 18; act++) {
            x.slip(act % 9, 8 + act % 5 % 2);
        }
        x.keep(1);
        for (int told = 0; told < 12; told++) {
            x.pay(8 - told % 9, 111);
        }
        x.seed(Long.MIN_VALUE);
        return x;
    }

    static void refused(String call, Supplier<RightIfAsMany> made, ToLongFunction<RightIfAsMany> ask, long want) {
        RightIfAsMany asked = made.get();
        Check.due(call, ask.applyAsLong(asked), want);
        String got = behind(asked);
        String due = behind(made.get());
        Check.holds(call + " changes nothing: behind it " + got + ", due is " + due, got.equals(due));
    }

    static void refusedByAll(String call, ToLongFunction<RightIfAsMany> ask, long want) {
        for (Supplier<RightIfAsMany> made : ALL) {
            refused(call, made, ask, want);
        }
    }

    /** Numbers beside the bounds, far beyond them, and such as seem within them when bits are cut off. */
    static void beyond(String call, Supplier<RightIfAsMany> made, int least, int most, Ask ask, long want) {
        int[] all = {least - 1, most + 1, Integer.MIN_VALUE, Integer.MAX_VALUE, least + 16, most - 16, least + 32,
            most - 32, least + 64, least + 256, most - 256, least + 65536, most - 65536, Integer.MIN_VALUE + most};
        for (int n : all) {
            if (n < least || n > most) {
                refused(call + " of " + n, made, x -> ask.of(x, n), want);
            }
        }
    }

    static void beyondByAll(String call, int least, int most, Ask ask, long want) {
        for (Supplier<RightIfAsMany> made : ALL) {
            beyond(call, made, least, most, ask, want);
        }
    }

    /** All that calls behind it answer; what can be seen only by a change is changed. */
    private static String behind(RightIfAsMany x) {
        StringBuilder all = new StringBuilder();
        look(x, all);
        for (int act = 0; act < 17; act++) {
            all.append("undo ").append(x.undo()).append(':').append(Check.people(x)).append(' ');
        }
        for (int slot = 0; slot < 2; slot++) {
            all.append("again ").append(x.again(slot)).append(':').append(Check.people(x)).append(' ');
        }
        all.append("won ").append(x.won(0, 3)).append(" seed ").append(x.seed(1)).append(" tenths");
        for (int number = 0; number <= 9; number++) {
            all.append(' ').append(x.tenths(number, 1));
        }
        all.append(" table ").append(x.table()).append(':').append(Check.people(x));
        for (int what = 0; what <= 9; what++) {
            all.append(' ').append(x.count(what));
        }
        all.append(" cheated ").append(x.cheated()).append(" unpay ").append(x.unpay());
        return all.toString();
    }

    private static void look(RightIfAsMany x, StringBuilder all) {
        all.append("fault ").append(x.fault()).append(" counts");
        for (int what = 0; what <= 9; what++) {
            all.append(' ').append(x.count(what));
        }
        all.append(" people ");
        int size = x.count(1);
        for (int person = 0; person < size; person++) {
            for (int what = 0; what <= 3; what++) {
                all.append(x.person(person, what)).append(' ');
            }
            all.append(x.agreed(person)).append(' ');
        }
        for (int number = 0; number <= 9; number++) {
            all.append(x.wrote(number));
        }
        all.append(" settled ").append(x.settled()).append(" late ").append(x.late());
        all.append(" cheated ").append(x.cheated());
        all.append(" ways ").append(x.ways(5)).append(" wrong ").append(x.wrong(5));
        all.append(" chances ").append(x.allRight(3, true)).append('/').append(x.allRight(3, false));
        all.append(' ').append(x.mean(3, true)).append('/').append(x.mean(3, false));
        all.append(' ').append(x.forget(0, 3, true)).append(" rests ").append(x.rests(2)).append(' ');
    }
}
