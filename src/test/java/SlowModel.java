import java.math.BigInteger;
import java.util.ArrayDeque;
import java.util.ArrayList;
import java.util.Arrays;
import java.util.Deque;
import java.util.List;

/**
 * The document word by word, without a thought of speed: rows are all tried, chances are summed
 * case by case. The tests hold the class against it.
 */
final class SlowModel {
    private static final int UNKNOWN = -1, OUTSIDE = -2, STATE = -3, FULL = -4, NONE = -9;

    private String text = "";
    private int law = 0;
    private int share = 0;
    private int pot = 0;
    private List<Integer> barred = new ArrayList<>();
    private List<Integer> people = new ArrayList<>();
    private Deque<List<Integer>> acts = new ArrayDeque<>();
    private final List<List<Integer>> slots = new ArrayList<>(Arrays.asList(null, null));
    private final int[] tenths = {0, 10, 0, 0, 0, 0, 0, 0, 0, 0};
    private final List<int[]> paid = new ArrayList<>();
    private long seed = 0;

    // ---- the table

    int write(int n, long v) {
        if (n < 1 || n > 8) {
            return OUTSIDE;
        }
        if (text.length() + n > 40) {
            return FULL;
        }
        for (int i = n - 1; i >= 0; i--) {
            text += (char) ((v >> 8 * i) & 0xff);
        }
        return text.length();
    }

    int wipe() {
        int before = text.length();
        text = "";
        return before;
    }

    /** Whether a text is a table, its length set aside. */
    static boolean isTable(String t) {
        if (!t.matches("(?s)T[0-2][01][0-9][0-9][0-9]([NP][0-9])*")) {
            return false;
        }
        List<Character> bars = new ArrayList<>();
        List<Character> wrote = new ArrayList<>();
        for (int i = 6; i < t.length(); i += 2) {
            char d = t.charAt(i + 1);
            if (bars.contains(d) || t.charAt(i) == 'N' && wrote.contains(d)) {
                return false;
            }
            (t.charAt(i) == 'N' ? bars : wrote).add(d);
        }
        return bars.size() <= 9 && wrote.size() <= 9;
    }

    /** Whether something behind it (nothing, too) makes a text a table. */
    static boolean canBecomeTable(String t) {
        if (t.length() < 6) {
            return isTable(t + "T00000".substring(t.length()));
        }
        if (isTable(t)) {
            return true;
        }
        for (char d = '0'; d <= '9'; d++) {
            if (isTable(t + d)) {
                return true;
            }
        }
        return false;
    }

    int fault() {
        for (int place = 0; place < text.length(); place++) {
            if (!canBecomeTable(text.substring(0, place + 1))) {
                return place;
            }
        }
        return isTable(text) ? NONE : text.length();
    }

    int table() {
        if (fault() != NONE) {
            return STATE;
        }
        law = text.charAt(1) - '0';
        share = text.charAt(2) - '0';
        pot = Integer.parseInt(text.substring(3, 6));
        barred = new ArrayList<>();
        people = new ArrayList<>();
        for (int i = 6; i < text.length(); i += 2) {
            (text.charAt(i) == 'N' ? barred : people).add(text.charAt(i + 1) - '0');
        }
        acts = new ArrayDeque<>();
        slots.set(0, null);
        slots.set(1, null);
        return people.size();
    }

    private boolean right(List<Integer> row, int who) {
        int d = row.get(who);
        int many = 0;
        for (int other : row) {
            many += other == d ? 1 : 0;
        }
        return law == 0 ? many == d : law == 1 ? many >= d : many <= d;
    }

    private int rightOf(List<Integer> row) {
        int many = 0;
        for (int i = 0; i < row.size(); i++) {
            many += right(row, i) ? 1 : 0;
        }
        return many;
    }

    private int gets(List<Integer> row, int who) {
        if (!right(row, who)) {
            return 0;
        }
        if (share == 0) {
            return pot / rightOf(row);
        }
        int sum = 0;
        for (int i = 0; i < row.size(); i++) {
            sum += right(row, i) ? row.get(i) : 0;
        }
        return sum == 0 ? 0 : pot * row.get(who) / sum;
    }

    private static List<Integer> with(List<Integer> row, int who, int d) {
        List<Integer> other = new ArrayList<>(row);
        other.set(who, d);
        return other;
    }

    private List<Integer> open() {
        List<Integer> all = new ArrayList<>();
        for (int d = 0; d <= 9; d++) {
            if (!barred.contains(d)) {
                all.add(d);
            }
        }
        return all;
    }

    int openMany() {
        return open().size();
    }

    private int wants(List<Integer> row, int who) {
        int most = -1;
        for (int d : open()) {
            most = Math.max(most, gets(with(row, who, d), who));
        }
        if (gets(row, who) == most) {
            return row.get(who);
        }
        for (int d : open()) {
            if (gets(with(row, who, d), who) == most) {
                return d;
            }
        }
        return NONE;
    }

    private boolean there(int person) {
        return person >= 0 && person < people.size();
    }

    int person(int person, int what) {
        if (!there(person)) {
            return UNKNOWN;
        }
        if (what < 0 || what > 3) {
            return OUTSIDE;
        }
        return what == 0 ? people.get(person) : what == 1 ? right(people, person) ? 1 : 0
            : what == 2 ? gets(people, person) : wants(people, person);
    }

    int wrote(int number) {
        if (number < 0 || number > 9) {
            return OUTSIDE;
        }
        return (int) people.stream().filter(d -> d == number).count();
    }

    // ---- acts

    private void act() {
        acts.addLast(new ArrayList<>(people));
        if (acts.size() > 16) {
            acts.removeFirst();
        }
    }

    int slip(int person, int d) {
        if (!there(person)) {
            return UNKNOWN;
        }
        if (d < 0 || d > 9) {
            return OUTSIDE;
        }
        if (barred.contains(d)) {
            return STATE;
        }
        act();
        return people.set(person, d);
    }

    int come(int d) {
        if (d < 0 || d > 9) {
            return OUTSIDE;
        }
        if (barred.contains(d)) {
            return STATE;
        }
        if (people.size() == 9) {
            return FULL;
        }
        act();
        people.add(d);
        return people.size() - 1;
    }

    int leave(int person) {
        if (!there(person)) {
            return UNKNOWN;
        }
        act();
        return people.remove(person);
    }

    private List<Integer> behindRound(List<Integer> row) {
        List<Integer> next = new ArrayList<>(row);
        for (int i = 0; i < row.size(); i++) {
            if (right(row, i)) {
                continue;
            }
            for (int d : open()) {
                if (right(with(row, i, d), i)) {
                    next.set(i, d);
                    break;
                }
            }
        }
        return next;
    }

    int round() {
        act();
        List<Integer> next = behindRound(people);
        int anew = 0;
        for (int i = 0; i < next.size(); i++) {
            anew += next.get(i).intValue() == people.get(i).intValue() ? 0 : 1;
        }
        people = next;
        return anew;
    }

    int undo() {
        if (acts.isEmpty()) {
            return STATE;
        }
        people = acts.removeLast();
        return acts.size();
    }

    int settled() {
        List<Integer> row = people;
        for (int rounds = 0; rounds <= 60; rounds++) {
            List<Integer> next = behindRound(row);
            if (next.equals(row)) {
                return rounds;
            }
            row = next;
        }
        return NONE;
    }

    // ---- agreed

    /** All rows of n of some numbers, the first ones first. */
    private static List<List<Integer>> rows(int n, List<Integer> numbers) {
        List<List<Integer>> all = new ArrayList<>();
        all.add(new ArrayList<>());
        for (int i = 0; i < n; i++) {
            List<List<Integer>> longer = new ArrayList<>();
            for (List<Integer> row : all) {
                for (int d : numbers) {
                    List<Integer> one = new ArrayList<>(row);
                    one.add(d);
                    longer.add(one);
                }
            }
            all = longer;
        }
        return all;
    }

    int ways(int n) {
        if (n < 0 || n > 9) {
            return OUTSIDE;
        }
        int many = 0;
        for (List<Integer> row : rows(n, open())) {
            many += rightOf(row) == n ? 1 : 0;
        }
        return many;
    }

    int wrong(int n) {
        if (n < 0 || n > 9) {
            return OUTSIDE;
        }
        int least = n;
        for (List<Integer> row : rows(n, open())) {
            least = Math.min(least, n - rightOf(row));
        }
        return least;
    }

    int agreed(int person) {
        if (!there(person)) {
            return UNKNOWN;
        }
        for (List<Integer> row : rows(people.size(), open())) {
            if (rightOf(row) == row.size()) {
                return row.get(person);
            }
        }
        return NONE;
    }

    int late() {
        if (people.size() == 9) {
            return FULL;
        }
        int least = NONE;
        for (List<Integer> row : rows(people.size() + 1, open())) {
            if (rightOf(row) == row.size()) {
                int anew = 0;
                for (int i = 0; i < people.size(); i++) {
                    anew += row.get(i).intValue() == people.get(i).intValue() ? 0 : 1;
                }
                least = least == NONE ? anew : Math.min(least, anew);
            }
        }
        return least;
    }

    // ---- chances

    int tenths(int number, int t) {
        if (number < 0 || number > 9 || t < 0 || t > 10) {
            return OUTSIDE;
        }
        int before = tenths[number];
        tenths[number] = t;
        return before;
    }

    List<Integer> written() {
        List<Integer> all = new ArrayList<>();
        for (int d = 0; d <= 9; d++) {
            if (tenths[d] > 0) {
                all.add(d);
            }
        }
        return all;
    }

    private static long told(long above, long below, boolean upper) {
        BigInteger divisor = BigInteger.valueOf(above).gcd(BigInteger.valueOf(below));
        return (upper ? above : below) / divisor.longValue();
    }

    private static long tens(int n) {
        return BigInteger.TEN.pow(n).longValue();
    }

    private long chance(List<Integer> row) {
        long product = 1;
        for (int d : row) {
            product *= tenths[d];
        }
        return product;
    }

    private int refusal(int n) {
        return n < 0 || n > 9 ? OUTSIDE : Arrays.stream(tenths).sum() != 10 ? STATE : 0;
    }

    long allRight(int n, boolean upper) {
        if (refusal(n) != 0) {
            return refusal(n);
        }
        long sum = 0;
        for (List<Integer> row : rows(n, written())) {
            sum += rightOf(row) == n ? chance(row) : 0;
        }
        return told(sum, tens(n), upper);
    }

    long mean(int n, boolean upper) {
        if (refusal(n) != 0) {
            return refusal(n);
        }
        long sum = 0;
        for (List<Integer> row : rows(n, written())) {
            sum += rightOf(row) * chance(row);
        }
        return told(sum, tens(n), upper);
    }

    long forget(int person, int x, boolean upper) {
        if (!there(person)) {
            return UNKNOWN;
        }
        if (x < 0 || x > 10) {
            return OUTSIDE;
        }
        long sum = 0;
        for (int bits = 0; bits < 1 << people.size(); bits++) {
            if ((bits >> person & 1) == 0) {
                continue;
            }
            List<Integer> row = new ArrayList<>();
            int who = 0;
            long product = 1;
            for (int i = 0; i < people.size(); i++) {
                boolean writes = (bits >> i & 1) == 1;
                product *= writes ? 10 - x : x;
                if (i == person) {
                    who = row.size();
                }
                if (writes) {
                    row.add(people.get(i));
                }
            }
            sum += right(row, who) ? product : 0;
        }
        return told(sum, tens(people.size()), upper);
    }

    // ---- rests, payments, evenings

    int rests(int n) {
        if (n < 0 || n > 4) {
            return OUTSIDE;
        }
        int many = 0;
        for (List<Integer> row : rows(n, open())) {
            boolean rest = true;
            for (int i = 0; i < n && rest; i++) {
                rest = wants(row, i) == row.get(i);
            }
            many += rest ? 1 : 0;
        }
        return many;
    }

    int pay(int person, int amount) {
        if (person < 0 || person > 8 || amount < 0 || amount > 999) {
            return OUTSIDE;
        }
        if (paid.size() == 12) {
            return FULL;
        }
        paid.add(new int[] {person, amount});
        return paid.size();
    }

    int unpay() {
        int before = paid.size();
        paid.clear();
        return before;
    }

    int cheated() {
        for (int person = 0; person < people.size(); person++) {
            int last = NONE;
            for (int[] one : paid) {
                last = one[0] == person ? one[1] : last;
            }
            if (last != NONE && last != gets(people, person)) {
                return person;
            }
        }
        return NONE;
    }

    long seed(long v) {
        long before = seed;
        seed = v;
        return before;
    }

    int won(int person, int m) {
        if (!there(person)) {
            return UNKNOWN;
        }
        if (m < 1 || m > 40) {
            return OUTSIDE;
        }
        int sum = 0;
        for (int evening = 0; evening < m; evening++) {
            List<Integer> row = new ArrayList<>();
            for (int i = 0; i < people.size(); i++) {
                seed = seed * 6364136223846793005L + 1442695040888963407L;
                long upper = BigInteger.valueOf(seed).and(BigInteger.ONE.shiftLeft(64).subtract(BigInteger.ONE))
                    .shiftRight(33).longValue();
                row.add(open().get((int) (upper % open().size())));
            }
            sum += gets(row, person);
        }
        return sum;
    }

    // ---- slots

    int keep(int slot) {
        if (slot < 0 || slot > 1) {
            return UNKNOWN;
        }
        slots.set(slot, new ArrayList<>(people));
        return people.size();
    }

    int again(int slot) {
        if (slot < 0 || slot > 1) {
            return UNKNOWN;
        }
        if (slots.get(slot) == null) {
            return STATE;
        }
        people = new ArrayList<>(slots.get(slot));
        acts.clear();
        return people.size();
    }

    int count(int what) {
        int bits = 0;
        int left = pot;
        for (int i = 0; i < people.size(); i++) {
            bits += right(people, i) ? 1 << i : 0;
            left -= gets(people, i);
        }
        int bars = 0;
        for (int d : barred) {
            bars += 1 << d;
        }
        int[] all = {text.length(), people.size(), bits, bars, acts.size(), paid.size(), pot, law, share, left};
        return what < 0 || what > 9 ? OUTSIDE : all[what];
    }
}
