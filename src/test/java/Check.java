import java.util.Arrays;

/** What all tests use: answers that are due, texts told in bytes, all that can be seen of an object. */
final class Check {
    private static int asked = 0;
    private static int wrong = 0;

    private Check() {
    }

    static void due(String call, long got, long want) {
        asked++;
        if (got != want) {
            wrong++;
            if (wrong <= 30) {
                System.out.println(call + " answered " + got + ", due is " + want);
            }
        }
    }

    static void holds(String what, boolean so) {
        due(what, so ? 1 : 0, 1);
    }

    static boolean allAsDue() {
        return wrong == 0;
    }

    static void end() {
        System.out.println(asked + " answers, " + wrong + " not as due");
        if (wrong != 0 || asked == 0) {
            System.exit(1);
        }
    }

    /** An object whose table is told by a text. */
    static RightIfAsMany told(String table) {
        RightIfAsMany x = new RightIfAsMany();
        tell(x, table);
        return x;
    }

    static void tell(RightIfAsMany x, String table) {
        x.wipe();
        write(x, table);
        holds("table() of " + table, x.table() >= 0);
    }

    static void write(RightIfAsMany x, String text) {
        for (int from = 0; from < text.length(); from += 8) {
            String part = text.substring(from, Math.min(text.length(), from + 8));
            due("write of " + part, x.write(part.length(), bytes(part)), from + part.length());
        }
    }

    static void write1(RightIfAsMany x, char sign, int length) {
        due("write of " + sign, x.write(1, sign), length);
    }

    static long bytes(String part) {
        long v = 0;
        for (int i = 0; i < part.length(); i++) {
            v = v << 8 | part.charAt(i) & 255;
        }
        return v;
    }

    /** What the people wrote, in their order. */
    static String people(RightIfAsMany x) {
        StringBuilder all = new StringBuilder();
        int size = x.count(1);
        for (int person = 0; person < size; person++) {
            all.append(x.person(person, 0));
        }
        return all.toString();
    }

    static void duePeople(String call, RightIfAsMany x, String want) {
        String got = people(x);
        holds(call + ": people wrote " + got + ", due is " + want, got.equals(want));
    }

    /** All that can be seen without a change that is not taken back: for refusals, that change nothing. */
    static String seen(RightIfAsMany x) {
        StringBuilder all = new StringBuilder();
        for (int what = 0; what <= 9; what++) {
            all.append(x.count(what)).append(' ');
        }
        all.append(people(x)).append(' ').append(x.fault()).append(' ').append(x.cheated());
        int[] tenths = new int[10];
        for (int number = 0; number <= 9; number++) {
            tenths[number] = x.tenths(number, 0);
            x.tenths(number, tenths[number]);
        }
        all.append(Arrays.toString(tenths));
        long seed = x.seed(0);
        x.seed(seed);
        return all.append(seed).toString();
    }

    /** A call that must be refused: what it answered is due, and what was seen is seen again. */
    static void refused(String call, RightIfAsMany x, String before, long got, long want) {
        due(call, got, want);
        String after = seen(x);
        holds(call + " changes nothing: " + before + " became " + after, before.equals(after));
    }
}
