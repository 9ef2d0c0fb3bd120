import java.util.Random;

/**
 * Promises 14 to 17, 19 and 20 where rows are too many to be tried one by one: all ways to split n
 * people over ten numbers are tried, each with as many rows as it has.
 */
public final class WideTest {
    private static final int NONE = -9;
    private static final long[] FACTORIAL = {1, 1, 2, 6, 24, 120, 720, 5040, 40320, 362880};

    private final int law;
    private final boolean[] open;
    private final int[] there;
    private final int[] tenths;
    private final int[] split = new int[10];

    private long ways;
    private int fewestWrong;
    private int fewestAnew;
    private String first;
    private long allRight;
    private long together;

    private WideTest(int law, boolean[] open, int[] there, int[] tenths) {
        this.law = law;
        this.open = open;
        this.there = there;
        this.tenths = tenths;
    }

    public static void main(String[] args) {
        Random random = new Random(5);
        for (int round = 0; round < 45 && Check.allAsDue(); round++) {
            tryTable(random, round % 3, round < 3 ? 0 : random.nextInt(10), random.nextInt(10));
        }
        Check.end();
    }

    private static void tryTable(Random random, int law, int bars, int people) {
        StringBuilder text = new StringBuilder("T").append(law).append("0100");
        boolean[] open = new boolean[10];
        java.util.Arrays.fill(open, true);
        for (int i = 0; i < bars; i++) {
            int number = random.nextInt(10);
            if (open[number]) {
                open[number] = false;
                text.append('N').append(number);
            }
        }
        RightIfAsMany x = Check.told(text.toString());
        int[] there = new int[10];
        while (x.count(1) < people) {
            int number = random.nextInt(10);
            if (x.come(number) >= 0) {
                there[number]++;
            }
        }
        int[] tenths = new int[10];
        for (int i = 0; i < 10; i++) {
            tenths[random.nextInt(10)]++;
        }
        for (int number = 0; number <= 9; number++) {
            x.tenths(number, tenths[number]);
        }
        WideTest test = new WideTest(law, open, there, tenths);
        for (int n = 0; n <= 9; n++) {
            test.compare(x, text.toString(), n, people);
        }
    }

    private void compare(RightIfAsMany x, String text, int n, int people) {
        ways = 0;
        fewestWrong = n;
        fewestAnew = NONE;
        first = "";
        allRight = 0;
        together = 0;
        splitFrom(0, n, n);
        String call = text + " with " + people + ", n = " + n + ": ";
        Check.due(call + "ways", x.ways(n), ways);
        Check.due(call + "wrong", x.wrong(n), fewestWrong);
        long below = (long) Math.pow(10, n);
        long divisor = java.math.BigInteger.valueOf(allRight).gcd(java.math.BigInteger.valueOf(below)).longValue();
        Check.due(call + "allRight above", x.allRight(n, true), allRight / divisor);
        Check.due(call + "allRight below", x.allRight(n, false), below / divisor);
        divisor = java.math.BigInteger.valueOf(together).gcd(java.math.BigInteger.valueOf(below)).longValue();
        Check.due(call + "mean above", x.mean(n, true), together / divisor);
        Check.due(call + "mean below", x.mean(n, false), below / divisor);
        if (n == people + 1) {
            Check.due(call + "late", x.late(), fewestAnew);
        }
        for (int person = 0; n == people && person < n; person++) {
            Check.due(call + "agreed", x.agreed(person), first.isEmpty() ? NONE : first.charAt(person) - '0');
        }
    }

    private void splitFrom(int number, int left, int n) {
        if (number == 10) {
            if (left == 0) {
                look(n);
            }
            return;
        }
        for (int many = 0; many <= left; many++) {
            split[number] = many;
            splitFrom(number + 1, left - many, n);
        }
        split[number] = 0;
    }

    private void look(int n) {
        long rows = FACTORIAL[n];
        long chance = 1;
        int right = 0;
        int stay = 0;
        boolean canBeWritten = true;
        StringBuilder row = new StringBuilder();
        for (int number = 0; number <= 9; number++) {
            int many = split[number];
            rows /= FACTORIAL[many];
            chance *= (long) Math.pow(tenths[number], many);
            boolean suits = law == 0 ? many == number : law == 1 ? many >= number : many <= number;
            right += suits ? many : 0;
            stay += Math.min(many, there[number]);
            canBeWritten &= many == 0 || open[number];
            row.append(String.valueOf(number).repeat(many));
        }
        together += rows * chance * right;
        allRight += right == n ? rows * chance : 0;
        if (!canBeWritten) {
            return;
        }
        fewestWrong = Math.min(fewestWrong, n - right);
        if (right == n) {
            ways += rows;
            int anew = n - 1 - stay;
            fewestAnew = fewestAnew == NONE ? anew : Math.min(fewestAnew, anew);
            String told = row.toString();
            first = first.isEmpty() || told.compareTo(first) < 0 ? told : first;
        }
    }
}
