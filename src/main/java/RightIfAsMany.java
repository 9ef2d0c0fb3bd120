import java.util.Arrays;

/**
 * Each of some people writes a number, and those are right of whom just so many (or at least,
 * at most so many) wrote it. README.md says how the class is used.
 *
 * All rows are made with the object and used again, so that no call makes an object.
 */
public final class RightIfAsMany {
    public static final int UNKNOWN = -1, OUTSIDE = -2, STATE = -3, FULL = -4, NONE = -9;

    private static final int NUMBERS = 10;
    private static final int MOST_PEOPLE = 9;
    private static final int MOST_BARRED = 9;
    private static final int MOST_BYTES = 40;
    private static final int MOST_BYTES_AT_ONCE = 8;
    private static final int MOST_ACTS = 16;
    private static final int MOST_ROUNDS = 60;
    private static final int MOST_AT_REST = 4;
    private static final int MOST_PAID = 12;
    private static final int MOST_AMOUNT = 999;
    private static final int MOST_EVENINGS = 40;
    private static final int SLOTS = 2;
    private static final int ALL_TENTHS = 10;
    private static final int HEAD = 6;
    private static final int MOST_DIVISIONS = 128;
    private static final int NEVER = 1000;
    private static final long NOT_KEPT = -1L;

    private final Text text;
    private final Reader reader;
    private final Rules rules;
    private final People people;
    private final Memory memory;
    private final Rows rows;
    private final Chances chances;
    private final Moves moves;
    private final Payments payments;
    private final Evenings evenings;

    public RightIfAsMany() {
        text = new Text();
        reader = new Reader();
        rules = new Rules();
        people = new People();
        memory = new Memory();
        rows = new Rows();
        chances = new Chances();
        moves = new Moves();
        payments = new Payments();
        evenings = new Evenings();
    }

    // ---- the table

    public int write(int n, long v) {
        if (n < 1 || n > MOST_BYTES_AT_ONCE) {
            return OUTSIDE;
        }
        if (n > MOST_BYTES - text.length()) {
            return FULL;
        }
        text.add(n, v);
        return text.length();
    }

    public int wipe() {
        int before = text.length();
        text.clear();
        return before;
    }

    public int fault() {
        return reader.firstFault(text);
    }

    public int table() {
        if (reader.firstFault(text) != NONE) {
            return STATE;
        }
        rules.become(reader.readRules());
        people.unpack(reader.readPeople().pack());
        memory.dropActs();
        memory.dropSlots();
        return people.size();
    }

    public int person(int person, int what) {
        if (!people.has(person)) {
            return UNKNOWN;
        }
        int own = people.numberOf(person);
        switch (what) {
            case 0:
                return own;
            case 1:
                return rules.suits(own, people.many(own)) ? 1 : 0;
            case 2:
                return gainOf(person);
            case 3:
                return rules.wanted(own, people.counts());
            default:
                return OUTSIDE;
        }
    }

    public int wrote(int number) {
        return isNumber(number) ? people.many(number) : OUTSIDE;
    }

    // ---- acts

    public int slip(int person, int d) {
        if (!people.has(person)) {
            return UNKNOWN;
        }
        int refusal = refusalOfNumber(d);
        if (refusal != 0) {
            return refusal;
        }
        int before = people.numberOf(person);
        memory.addAct(people.pack());
        people.rewrite(person, d);
        return before;
    }

    public int come(int d) {
        int refusal = refusalOfNumber(d);
        if (refusal != 0) {
            return refusal;
        }
        if (people.size() >= MOST_PEOPLE) {
            return FULL;
        }
        memory.addAct(people.pack());
        people.add(d);
        return people.size() - 1;
    }

    public int leave(int person) {
        if (!people.has(person)) {
            return UNKNOWN;
        }
        int before = people.numberOf(person);
        memory.addAct(people.pack());
        people.drop(person);
        return before;
    }

    public int round() {
        memory.addAct(people.pack());
        return moves.correct(rules, people);
    }

    public int undo() {
        if (memory.acts() == 0) {
            return STATE;
        }
        people.unpack(memory.takeAct());
        return memory.acts();
    }

    public int settled() {
        return moves.roundsTillRest(rules, people.counts());
    }

    // ---- agreed

    public int ways(int n) {
        return isCrowd(n) ? rows.allRightRows(rules, n) : OUTSIDE;
    }

    public int wrong(int n) {
        return isCrowd(n) ? rows.fewestNotRight(rules, n) : OUTSIDE;
    }

    public int agreed(int person) {
        return people.has(person) ? rows.firstAllRight(rules, person, people.size()) : UNKNOWN;
    }

    public int late() {
        if (people.size() >= MOST_PEOPLE) {
            return FULL;
        }
        return rows.fewestAnew(rules, people.counts(), people.size());
    }

    // ---- chances

    public int tenths(int number, int t) {
        if (!isNumber(number) || t < 0 || t > ALL_TENTHS) {
            return OUTSIDE;
        }
        return chances.put(number, t);
    }

    public long allRight(int n, boolean upper) {
        int refusal = refusalOfChances(n);
        if (refusal != 0) {
            return refusal;
        }
        return leastTerms(rows.weighted(rules, chances.weights(), n), power(ALL_TENTHS, n), upper);
    }

    public long mean(int n, boolean upper) {
        int refusal = refusalOfChances(n);
        if (refusal != 0) {
            return refusal;
        }
        return leastTerms(chances.rightTogether(rules, n), power(ALL_TENTHS, n), upper);
    }

    public long forget(int person, int x, boolean upper) {
        if (!people.has(person)) {
            return UNKNOWN;
        }
        if (x < 0 || x > ALL_TENTHS) {
            return OUTSIDE;
        }
        int own = people.numberOf(person);
        int many = people.many(own);
        return leastTerms(chances.rightThoughForgetting(rules, own, many, x), power(ALL_TENTHS, many), upper);
    }

    // ---- rests, payments, evenings

    public int rests(int n) {
        return n < 0 || n > MOST_AT_REST ? OUTSIDE : moves.rowsAtRest(rules, n);
    }

    public int pay(int person, int amount) {
        if (person < 0 || person >= MOST_PEOPLE || amount < 0 || amount > MOST_AMOUNT) {
            return OUTSIDE;
        }
        if (payments.told() >= MOST_PAID) {
            return FULL;
        }
        payments.tell(person, amount);
        return payments.told();
    }

    public int unpay() {
        int before = payments.told();
        payments.clear();
        return before;
    }

    public int cheated() {
        for (int person = 0; person < people.size(); person++) {
            if (payments.differs(person, gainOf(person))) {
                return person;
            }
        }
        return NONE;
    }

    public long seed(long v) {
        return evenings.sow(v);
    }

    public int won(int person, int m) {
        if (!people.has(person)) {
            return UNKNOWN;
        }
        if (m < 1 || m > MOST_EVENINGS) {
            return OUTSIDE;
        }
        int together = 0;
        for (int evening = 0; evening < m; evening++) {
            together += evenings.gain(rules, person, people.size());
        }
        return together;
    }

    // ---- slots

    public int keep(int slot) {
        if (!isSlot(slot)) {
            return UNKNOWN;
        }
        memory.putSlot(slot, people.pack());
        return people.size();
    }

    public int again(int slot) {
        if (!isSlot(slot)) {
            return UNKNOWN;
        }
        if (memory.slot(slot) == NOT_KEPT) {
            return STATE;
        }
        people.unpack(memory.slot(slot));
        memory.dropActs();
        return people.size();
    }

    public int count(int what) {
        switch (what) {
            case 0:
                return text.length();
            case 1:
                return people.size();
            case 2:
                return rightBits();
            case 3:
                return rules.barredBits();
            case 4:
                return memory.acts();
            case 5:
                return payments.told();
            case 6:
                return rules.potWhole();
            case 7:
                return rules.lawKind();
            case 8:
                return rules.shareKind();
            case 9:
                return leftOfPot();
            default:
                return OUTSIDE;
        }
    }

    // ---- what several calls need

    private int refusalOfNumber(int d) {
        if (!isNumber(d)) {
            return OUTSIDE;
        }
        return rules.isOpen(d) ? 0 : STATE;
    }

    private int refusalOfChances(int n) {
        if (!isCrowd(n)) {
            return OUTSIDE;
        }
        return chances.areWhole() ? 0 : STATE;
    }

    private int gainOf(int person) {
        int own = people.numberOf(person);
        return rules.gain(own, people.many(own), rules.claims(people.counts()));
    }

    private int rightBits() {
        int bits = 0;
        for (int person = 0; person < people.size(); person++) {
            int own = people.numberOf(person);
            if (rules.suits(own, people.many(own))) {
                bits |= 1 << person;
            }
        }
        return bits;
    }

    private int leftOfPot() {
        int left = rules.potWhole();
        for (int person = 0; person < people.size(); person++) {
            left -= gainOf(person);
        }
        return left;
    }

    private static boolean isNumber(int number) {
        return number >= 0 && number < NUMBERS;
    }

    private static boolean isCrowd(int n) {
        return n >= 0 && n <= MOST_PEOPLE;
    }

    private static boolean isSlot(int slot) {
        return slot >= 0 && slot < SLOTS;
    }

    private static long leastTerms(long above, long below, boolean upper) {
        long divisor = commonDivisor(above, below);
        if (divisor < 1) {
            return NONE;
        }
        return (upper ? above : below) / divisor;
    }

    private static long commonDivisor(long first, long second) {
        long larger = first;
        long smaller = second;
        // Two divisions halve the larger one at least, so a long's bits bound how many there are.
        for (int step = 0; step < MOST_DIVISIONS && smaller != 0; step++) {
            long left = larger % smaller;
            larger = smaller;
            smaller = left;
        }
        return larger;
    }

    private static long power(long base, int times) {
        long product = 1;
        for (int i = 0; i < times; i++) {
            product *= base;
        }
        return product;
    }

    private static int choose(int all, int some) {
        int picks = 1;
        for (int i = 1; i <= some; i++) {
            picks = picks * (all - i + 1) / i;
        }
        return picks;
    }

    /** The bytes that a table is told by. */
    private static final class Text {
        private final int[] bytes = new int[MOST_BYTES];
        private int length;

        int length() {
            return length;
        }

        int at(int place) {
            return place >= 0 && place < length ? bytes[place] : NONE;
        }

        void add(int n, long v) {
            for (int i = n - 1; i >= 0 && length < MOST_BYTES; i--) {
                bytes[length] = (int) (v >>> (8 * i)) & 255;
                length++;
            }
        }

        void clear() {
            length = 0;
        }
    }

    /** Reads a text into rules and people of its own: a text with a fault leaves the table alone. */
    private static final class Reader {
        private final Rules rules = new Rules();
        private final People people = new People();
        private int letter;

        Rules readRules() {
            return rules;
        }

        People readPeople() {
            return people;
        }

        int firstFault(Text text) {
            rules.clear();
            people.clear();
            int length = text.length();
            for (int place = 0; place < length; place++) {
                if (!takes(place, text.at(place))) {
                    return place;
                }
            }
            return length < HEAD || length % 2 != 0 ? length : NONE;
        }

        private boolean takes(int place, int sign) {
            if (place == 0) {
                return sign == 'T';
            }
            if (place >= HEAD && place % 2 == 0) {
                return takesLetter(sign);
            }
            int figure = sign - '0';
            if (!isNumber(figure)) {
                return false;
            }
            return place < HEAD ? takesHead(place, figure) : takesNumber(figure);
        }

        private boolean takesHead(int place, int figure) {
            if (place == 1) {
                return rules.takeLaw(figure);
            }
            if (place == 2) {
                return rules.takeShare(figure);
            }
            rules.takePotFigure(figure);
            return true;
        }

        // A letter is a fault already where no number can stand behind it.
        private boolean takesLetter(int sign) {
            letter = sign;
            if (sign == 'P') {
                return people.size() < MOST_PEOPLE;
            }
            return sign == 'N' && rules.barredMany() < MOST_BARRED && someCanBeBarred();
        }

        private boolean someCanBeBarred() {
            for (int number = 0; number < NUMBERS; number++) {
                if (canBeBarred(number)) {
                    return true;
                }
            }
            return false;
        }

        private boolean canBeBarred(int number) {
            return rules.isOpen(number) && people.many(number) == 0;
        }

        private boolean takesNumber(int number) {
            if (letter == 'P') {
                boolean open = rules.isOpen(number);
                if (open) {
                    people.add(number);
                }
                return open;
            }
            boolean free = canBeBarred(number);
            if (free) {
                rules.bar(number);
            }
            return free;
        }
    }

    /** Law, share, pot and barred numbers: what follows from how many wrote each number. */
    private static final class Rules {
        private int law;
        private int share;
        private int pot;
        private int barred;

        void clear() {
            law = 0;
            share = 0;
            pot = 0;
            barred = 0;
        }

        void become(Rules other) {
            law = other.law;
            share = other.share;
            pot = other.pot;
            barred = other.barred;
        }

        boolean takeLaw(int figure) {
            law = figure;
            return figure >= 0 && figure <= 2;
        }

        boolean takeShare(int figure) {
            share = figure;
            return figure >= 0 && figure <= 1;
        }

        void takePotFigure(int figure) {
            pot = pot * 10 + figure;
        }

        void bar(int number) {
            barred |= 1 << number;
        }

        int lawKind() {
            return law;
        }

        int shareKind() {
            return share;
        }

        int potWhole() {
            return pot;
        }

        int barredBits() {
            return barred;
        }

        int barredMany() {
            return Integer.bitCount(barred);
        }

        boolean isOpen(int number) {
            return isNumber(number) && (barred >> number & 1) == 0;
        }

        int openAt(int rank) {
            int ahead = 0;
            for (int number = 0; number < NUMBERS; number++) {
                if (isOpen(number)) {
                    if (ahead == rank) {
                        return number;
                    }
                    ahead++;
                }
            }
            return NONE;
        }

        boolean suits(int number, int many) {
            if (law == 0) {
                return many == number;
            }
            return law == 1 ? many >= number : many <= number;
        }

        private int weight(int number) {
            return share == 0 ? 1 : number;
        }

        private int claim(int number, int many) {
            return suits(number, many) ? many * weight(number) : 0;
        }

        /** What the pot is divided by. */
        int claims(int[] counts) {
            int together = 0;
            for (int number = 0; number < NUMBERS && number < counts.length; number++) {
                together += claim(number, counts[number]);
            }
            return together;
        }

        int gain(int number, int many, int claims) {
            return claims > 0 && suits(number, many) ? pot * weight(number) / claims : 0;
        }

        private int others(int own, int number, int[] counts) {
            if (number < 0 || number >= counts.length) {
                return 0;
            }
            return number == own ? counts[number] - 1 : counts[number];
        }

        private int gainBy(int number, int others, int claimsOfOthers) {
            int many = others + 1;
            if (!suits(number, many)) {
                return 0;
            }
            return gain(number, many, claimsOfOthers - claim(number, others) + claim(number, many));
        }

        int wanted(int own, int[] counts) {
            int othersOfOwn = others(own, own, counts);
            int claims = claims(counts) - claim(own, othersOfOwn + 1) + claim(own, othersOfOwn);
            int best = own;
            int most = gainBy(own, othersOfOwn, claims);
            for (int number = 0; number < NUMBERS; number++) {
                if (isOpen(number)) {
                    int gain = gainBy(number, others(own, number, counts), claims);
                    if (gain > most) {
                        best = number;
                        most = gain;
                    }
                }
            }
            return best;
        }

        boolean areAtRest(int[] counts) {
            for (int number = 0; number < NUMBERS && number < counts.length; number++) {
                if (counts[number] > 0 && wanted(number, counts) != number) {
                    return false;
                }
            }
            return true;
        }

        int corrected(int own, int[] counts) {
            if (suits(own, others(own, own, counts) + 1)) {
                return own;
            }
            for (int number = 0; number < NUMBERS; number++) {
                if (isOpen(number) && suits(number, others(own, number, counts) + 1)) {
                    return number;
                }
            }
            return own;
        }
    }

    /** Who is there, what each wrote, and how many wrote each number. */
    private static final class People {
        private final int[] numbers = new int[MOST_PEOPLE];
        private final int[] counts = new int[NUMBERS];
        private int size;

        int size() {
            return size;
        }

        boolean has(int person) {
            return person >= 0 && person < size;
        }

        int numberOf(int person) {
            return has(person) ? numbers[person] : NONE;
        }

        int many(int number) {
            return isNumber(number) ? counts[number] : 0;
        }

        int[] counts() {
            return counts;
        }

        void clear() {
            size = 0;
            Arrays.fill(counts, 0);
        }

        void add(int number) {
            if (size < MOST_PEOPLE && isNumber(number)) {
                numbers[size] = number;
                counts[number]++;
                size++;
            }
        }

        void rewrite(int person, int number) {
            if (has(person) && isNumber(number)) {
                counts[numbers[person]]--;
                counts[number]++;
                numbers[person] = number;
            }
        }

        void drop(int person) {
            if (has(person)) {
                counts[numbers[person]]--;
                size--;
                for (int i = person; i < size; i++) {
                    numbers[i] = numbers[i + 1];
                }
            }
        }

        /** One long holds them all, so that acts and slots need no rows of their own. */
        long pack() {
            long packed = 0;
            for (int i = size - 1; i >= 0; i--) {
                packed = packed << 4 | numbers[i];
            }
            return packed << 4 | size;
        }

        void unpack(long packed) {
            clear();
            int many = (int) (packed & 15);
            for (int i = 1; i <= many && i <= MOST_PEOPLE; i++) {
                add((int) (packed >>> (4 * i)) & 15);
            }
        }
    }

    /** The people as they were: ahead of each act, and in the slots. */
    private static final class Memory {
        private final long[] row = new long[MOST_ACTS];
        private final long[] slots = {NOT_KEPT, NOT_KEPT};
        private int acts;

        int acts() {
            return acts;
        }

        void addAct(long before) {
            if (acts >= MOST_ACTS) {
                System.arraycopy(row, 1, row, 0, MOST_ACTS - 1);
                acts = MOST_ACTS - 1;
            }
            row[acts] = before;
            acts++;
        }

        long takeAct() {
            if (acts < 1) {
                return 0;
            }
            acts--;
            return row[acts];
        }

        void dropActs() {
            acts = 0;
        }

        void putSlot(int slot, long packed) {
            if (isSlot(slot)) {
                slots[slot] = packed;
            }
        }

        long slot(int slot) {
            return isSlot(slot) ? slots[slot] : NOT_KEPT;
        }

        void dropSlots() {
            Arrays.fill(slots, NOT_KEPT);
        }
    }

    /** Rows of numbers, taken together by how many write each number. */
    private static final class Rows {
        private final long[] sums = new long[MOST_PEOPLE + 1];
        private final int[] costs = new int[MOST_PEOPLE + 1];
        private final int[] weights = new int[NUMBERS];
        private final int[] needed = new int[NUMBERS];

        int allRightRows(Rules rules, int n) {
            for (int number = 0; number < NUMBERS; number++) {
                weights[number] = rules.isOpen(number) ? 1 : 0;
            }
            return (int) weighted(rules, weights, n);
        }

        /** All rows of n in which all are right, each as often as the product of its weights. */
        long weighted(Rules rules, int[] weightOf, int n) {
            if (!isCrowd(n)) {
                return 0;
            }
            Arrays.fill(sums, 0L);
            sums[0] = 1;
            for (int number = 0; number < NUMBERS && number < weightOf.length; number++) {
                // From above, so that what is read does not have this number yet.
                for (int size = n; size >= 1; size--) {
                    sums[size] += weightedWith(rules, number, weightOf[number], size);
                }
            }
            return sums[n];
        }

        private long weightedWith(Rules rules, int number, int weight, int size) {
            long sum = 0;
            long placings = 1;
            for (int many = 1; many <= size; many++) {
                placings = placings * weight * (size - many + 1) / many;
                if (rules.suits(number, many)) {
                    sum += placings * sums[size - many];
                }
            }
            return sum;
        }

        int fewestNotRight(Rules rules, int n) {
            if (!isCrowd(n)) {
                return NONE;
            }
            startCosts();
            for (int number = 0; number < NUMBERS; number++) {
                if (rules.isOpen(number)) {
                    for (int size = n; size >= 1; size--) {
                        costs[size] = leastNotRight(rules, number, size);
                    }
                }
            }
            return costs[n];
        }

        private int leastNotRight(Rules rules, int number, int size) {
            int least = costs[size];
            for (int many = 1; many <= size; many++) {
                int cost = rules.suits(number, many) ? 0 : many;
                least = Math.min(least, costs[size - many] + cost);
            }
            return least;
        }

        /** Of those that are there, the fewest that write anew so that with one more all are right. */
        int fewestAnew(Rules rules, int[] counts, int there) {
            if (there < 0 || there >= MOST_PEOPLE) {
                return NONE;
            }
            startCosts();
            for (int number = 0; number < NUMBERS && number < counts.length; number++) {
                if (rules.isOpen(number)) {
                    for (int size = there + 1; size >= 0; size--) {
                        costs[size] = leastAnew(rules, number, counts[number], size);
                    }
                }
            }
            return costs[there + 1] < NEVER ? costs[there + 1] : NONE;
        }

        private int leastAnew(Rules rules, int number, int before, int size) {
            int least = costs[size] + before;
            for (int many = 1; many <= size; many++) {
                if (rules.suits(number, many)) {
                    least = Math.min(least, costs[size - many] + Math.max(0, before - many));
                }
            }
            return least;
        }

        private void startCosts() {
            Arrays.fill(costs, NEVER);
            costs[0] = 0;
        }

        /**
         * What a person writes in the first row of so many in which all are right. That row never
         * falls, as any order of it would do; so a number that was passed over is not tried again.
         */
        int firstAllRight(Rules rules, int person, int size) {
            Arrays.fill(needed, 0);
            int number = 0;
            for (int i = 0; i <= person && i < size; i++) {
                number = leastFrom(rules, number, size);
            }
            return number < NUMBERS ? number : NONE;
        }

        private int leastFrom(Rules rules, int from, int size) {
            for (int number = Math.max(0, from); number < NUMBERS; number++) {
                if (rules.isOpen(number)) {
                    needed[number]++;
                    if (canBeFilled(rules, size)) {
                        return number;
                    }
                    needed[number]--;
                }
            }
            return NUMBERS;
        }

        private boolean canBeFilled(Rules rules, int size) {
            int reached = 1;
            for (int number = 0; number < NUMBERS; number++) {
                if (rules.isOpen(number)) {
                    reached = reachedWith(rules, number, size, reached);
                }
            }
            return (reached >> size & 1) == 1;
        }

        // Bit k: k people can be placed so that all are right; higher bits fall away unread.
        private int reachedWith(Rules rules, int number, int size, int reached) {
            int least = isNumber(number) ? needed[number] : 0;
            int further = least == 0 ? reached : 0;
            for (int many = Math.max(1, least); many <= size; many++) {
                if (rules.suits(number, many)) {
                    further |= reached << many;
                }
            }
            return further;
        }
    }

    /** Chances, counted in as many like cases as ten to the power of the people. */
    private static final class Chances {
        private final int[] weights = {0, ALL_TENTHS, 0, 0, 0, 0, 0, 0, 0, 0};

        int[] weights() {
            return weights;
        }

        int put(int number, int t) {
            if (!isNumber(number)) {
                return NONE;
            }
            int before = weights[number];
            weights[number] = t;
            return before;
        }

        boolean areWhole() {
            int together = 0;
            for (int weight : weights) {
                together += weight;
            }
            return together == ALL_TENTHS;
        }

        private static long cases(int all, int some, int tenths) {
            return choose(all, some) * power(tenths, some) * power(ALL_TENTHS - tenths, all - some);
        }

        long rightTogether(Rules rules, int n) {
            long together = 0;
            for (int number = 0; number < NUMBERS; number++) {
                for (int many = 1; many <= n; many++) {
                    if (rules.suits(number, many)) {
                        together += many * cases(n, many, weights[number]);
                    }
                }
            }
            return together;
        }

        long rightThoughForgetting(Rules rules, int own, int many, int forgotten) {
            int written = ALL_TENTHS - forgotten;
            long together = 0;
            for (int others = 0; others < many; others++) {
                if (rules.suits(own, others + 1)) {
                    together += written * cases(many - 1, others, written);
                }
            }
            return together;
        }
    }

    /** Corrections round by round, and rows at rest. */
    private static final class Moves {
        private final int[] now = new int[NUMBERS];
        private final int[] next = new int[NUMBERS];

        int correct(Rules rules, People people) {
            // All look at once, so the counts stay as they were till the last one wrote.
            System.arraycopy(people.counts(), 0, now, 0, NUMBERS);
            int anew = 0;
            for (int person = 0; person < people.size(); person++) {
                int own = people.numberOf(person);
                int number = rules.corrected(own, now);
                if (number != own) {
                    people.rewrite(person, number);
                    anew++;
                }
            }
            return anew;
        }

        int roundsTillRest(Rules rules, int[] counts) {
            System.arraycopy(counts, 0, now, 0, NUMBERS);
            for (int rounds = 0; rounds <= MOST_ROUNDS; rounds++) {
                if (!changes(rules)) {
                    return rounds;
                }
                System.arraycopy(next, 0, now, 0, NUMBERS);
            }
            return NONE;
        }

        // Those that wrote alike correct alike, so counts tell a whole round.
        private boolean changes(Rules rules) {
            boolean changed = false;
            Arrays.fill(next, 0);
            for (int own = 0; own < NUMBERS; own++) {
                if (now[own] > 0) {
                    int number = rules.corrected(own, now);
                    if (isNumber(number)) {
                        next[number] += now[own];
                        changed = changed || number != own;
                    }
                }
            }
            return changed;
        }

        int rowsAtRest(Rules rules, int n) {
            Arrays.fill(now, 0);
            return restingRows(rules, now, 0, n);
        }

        /** Rows alike but for their order rest alike: each set of numbers is looked at once. */
        private static int restingRows(Rules rules, int[] counts, int number, int left) {
            if (left <= 0) {
                return rules.areAtRest(counts) ? 1 : 0;
            }
            if (!isNumber(number) || number >= counts.length) {
                return 0;
            }
            int found = restingRows(rules, counts, number + 1, left);
            if (rules.isOpen(number)) {
                for (int many = 1; many <= left; many++) {
                    counts[number] = many;
                    found += choose(left, many) * restingRows(rules, counts, number + 1, left - many);
                }
                counts[number] = 0;
            }
            return found;
        }
    }

    /** What was paid to whom. */
    private static final class Payments {
        private final int[] last = {NONE, NONE, NONE, NONE, NONE, NONE, NONE, NONE, NONE};
        private int told;

        int told() {
            return told;
        }

        void tell(int person, int amount) {
            if (person >= 0 && person < last.length) {
                last[person] = amount;
                told++;
            }
        }

        void clear() {
            Arrays.fill(last, NONE);
            told = 0;
        }

        boolean differs(int person, int due) {
            return person >= 0 && person < last.length && last[person] != NONE && last[person] != due;
        }
    }

    /** Evenings by a seed. */
    private static final class Evenings {
        private static final long TIMES = 6364136223846793005L;
        private static final long PLUS = 1442695040888963407L;

        private final int[] counts = new int[NUMBERS];
        private long state;

        long sow(long v) {
            long before = state;
            state = v;
            return before;
        }

        int gain(Rules rules, int person, int size) {
            Arrays.fill(counts, 0);
            int own = NONE;
            for (int i = 0; i < size; i++) {
                int number = drawn(rules);
                if (isNumber(number)) {
                    counts[number]++;
                }
                if (i == person) {
                    own = number;
                }
            }
            return isNumber(own) ? rules.gain(own, counts[own], rules.claims(counts)) : 0;
        }

        private int drawn(Rules rules) {
            state = state * TIMES + PLUS;
            int open = NUMBERS - rules.barredMany();
            return open > 0 ? rules.openAt((int) (state >>> 33) % open) : NONE;
        }
    }
}
