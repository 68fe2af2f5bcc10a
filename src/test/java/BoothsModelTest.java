import java.util.Arrays;
import java.util.Random;

/** Booths on paper for up to seven wishes, beside all rows of who is led where, one by one. */
public final class BoothsModelTest {
    private static final int NONE = -1;
    private static final int DAY = 5;

    private final Random random;
    private final FirstPolls x = new FirstPolls();
    private final int wishes;
    private final int[][] ways;
    private final int[] names;
    private final int[] mosts;
    private final int[] fars;
    // By the booths that a row leads to: the least sum, and the first row with it.
    private final int[] sums;
    private final int[][] rows;

    private BoothsModelTest(long seed) {
        random = new Random(seed);
        // The first numbers of neighbouring seeds are near each other; those behind are not.
        random.nextInt();
        wishes = 4 + random.nextInt(4);
        ways = new int[wishes][wishes];
        names = new int[wishes];
        mosts = new int[wishes];
        fars = new int[wishes];
        sums = new int[1 << wishes];
        rows = new int[1 << wishes][];
    }

    // The wished places are not in the order of their numbers.
    private void tellLand() {
        int miles = 1 + random.nextInt(random.nextInt(3) == 0 ? 100 : 12);
        int[][] at = new int[wishes][2];
        for (int place = 0; place < wishes; place++) {
            at[place][0] = random.nextInt(miles);
            at[place][1] = random.nextInt(miles);
            x.place(random.nextInt(6), at[place][0], at[place][1]);
            for (int i = random.nextInt(5); i > 0; i--) {
                x.name(place, i, 30, 0, Check.letters("anna"), DAY);
            }
        }
        int many = 1 + random.nextInt(9);
        int far = random.nextInt(2 * miles);
        Check.orders(x, 0, "on;most " + many + ";most " + many + "+1 if place/2*2=place;far " + far
                + ";far " + far + "+place if names>2");
        int[] order = new int[wishes];
        for (int i = 0; i < wishes; i++) {
            int other = random.nextInt(i + 1);
            order[i] = order[other];
            order[other] = i;
        }
        for (int wish = 0; wish < wishes; wish++) {
            Check.due("wish", x.wish(order[wish]), wish + 1);
            names[wish] = x.roll(order[wish], DAY, DAY);
            mosts[wish] = x.rule(order[wish], DAY, DAY, 0);
            fars[wish] = x.rule(order[wish], DAY, DAY, 1);
            for (int other = 0; other < wishes; other++) {
                ways[wish][other] = Math.abs(at[order[wish]][0] - at[order[other]][0])
                        + Math.abs(at[order[wish]][1] - at[order[other]][1]);
            }
        }
    }

    private void tryRows(int wish, int[] row, int[] load, int sum) {
        if (wish == wishes) {
            int bits = 0;
            for (int booth : row) {
                bits |= 1 << booth;
            }
            if (rows[bits] == null || sum < sums[bits]) {
                rows[bits] = row.clone();
                sums[bits] = sum;
            }
            return;
        }
        for (int booth = 0; booth < wishes; booth++) {
            if (ways[wish][booth] <= fars[wish] && load[booth] + names[wish] <= mosts[booth]) {
                row[wish] = booth;
                load[booth] += names[wish];
                tryRows(wish + 1, row, load, sum + ways[wish][booth]);
                load[booth] -= names[wish];
            }
        }
    }

    // A row that leads to fewer booths than are there is one with them, too.
    private int leastWithin(int bits) {
        int least = NONE;
        for (int set = 0; set <= bits; set++) {
            if ((set & bits) == set && rows[set] != null && (least == NONE || sums[set] < least)) {
                least = sums[set];
            }
        }
        return least;
    }

    private int best() {
        int best = NONE;
        for (int bits = 0; bits < 1 << wishes; bits++) {
            int many = Integer.bitCount(bits);
            if (rows[bits] != null && (best == NONE || many < Integer.bitCount(best)
                    || (many == Integer.bitCount(best) && sums[bits] < sums[best]))) {
                best = bits;
            }
        }
        return best;
    }

    private void compare(long seed) {
        int best = best();
        Check.due("run " + seed + ": booths()", x.booths(DAY, DAY), best);
        Check.due("run " + seed + ": led(NONE)", x.led(NONE), best == NONE ? NONE : sums[best]);
        for (int wish = 0; wish <= wishes; wish++) {
            int led = best == NONE || wish == wishes ? NONE : rows[best][wish];
            Check.due("run " + seed + ": led(" + wish + ")", x.led(wish), led);
        }
        for (int bits = 0; bits < 1 << wishes; bits++) {
            Check.due("run " + seed + ": judge(" + bits + ")", x.judge(bits, DAY, DAY),
                    leastWithin(bits));
        }
    }

    public static void main(String[] args) {
        int runs = args.length > 0 ? Integer.parseInt(args[0]) : 300;
        long first = args.length > 1 ? Long.parseLong(args[1]) : 1;
        // By how many booths are the fewest; 8: there are none.
        int[] found = new int[9];
        for (long seed = first; seed < first + runs; seed++) {
            BoothsModelTest test = new BoothsModelTest(seed);
            test.tellLand();
            test.tryRows(0, new int[test.wishes], new int[test.wishes], 0);
            test.compare(seed);
            int best = test.best();
            found[best == NONE ? 8 : Integer.bitCount(best)]++;
        }
        // Few runs tell nothing of how wide they range.
        for (int many = 1; many < found.length && runs >= 300; many++) {
            Check.due("runs with " + many + " booths " + Arrays.toString(found),
                    found[many] > 0 ? 1 : 0, 1);
        }
        Check.close("BoothsModelTest");
    }
}
