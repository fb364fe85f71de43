import java.math.BigInteger;

/** Promises 22 to 24 against counts by hand and of all cases; their boundary cases are in ChancesEdgesTest. */
public final class ChancesTest {
    public static void main(String[] args) {
        waysByHand();
        waysAndPrintsAgainstAllCases();
        Check.finish();
    }

    private static void waysByHand() {
        BookClub club = new BookClub();
        club.chance(0, 30);
        club.chance(1, 80);
        Check.due("none", club.ways(2, 4, 0), 70 * 20);
        Check.due("one", club.ways(2, 4, 1), 30 * 20 + 70 * 80);
        Check.due("both", club.ways(2, 4, 2), 30 * 80);
        club.chance(3, 100);
        Check.due("all of eight for certain", club.ways(8, 65535, 8), 10000000000000000L);
    }

    /** Goes through every subset of those who take it, apart from the way the class counts. */
    private static void waysAndPrintsAgainstAllCases() {
        int[] percents = {7, 50, 93, 31};
        int[][] rates = {{1, 1}, {1, 99}, {99, 1}, {3, 7}, {50, 49}};
        BookClub club = new BookClub();
        for (int kind = 0; kind < 4; kind++) {
            club.chance(kind, percents[kind]);
        }
        for (int n = 1; n <= 8; n++) {
            int kinds = (int) (0x6C1B93L * n % (1 << (2 * n)));
            BigInteger[] ways = allCases(n, kinds, percents);
            for (int k = 0; k <= n; k++) {
                Check.due("ways(" + n + ", " + kinds + ", " + k + ")",
                        club.ways(n, kinds, k), ways[k].longValueExact());
            }
            for (int[] rate : rates) {
                Check.due("print(" + n + ", " + kinds + ", " + rate[0] + ", " + rate[1] + ")",
                        club.print(n, kinds, rate[0], rate[1]), cheapest(ways, rate[0], rate[1]));
            }
        }
    }

    private static BigInteger[] allCases(int n, int kinds, int[] percents) {
        BigInteger[] ways = new BigInteger[n + 1];
        for (int k = 0; k <= n; k++) {
            ways[k] = BigInteger.ZERO;
        }
        for (int takers = 0; takers < 1 << n; takers++) {
            BigInteger cases = BigInteger.ONE;
            for (int i = 0; i < n; i++) {
                int p = percents[(kinds >> (2 * i)) & 3];
                cases = cases.multiply(BigInteger.valueOf((takers >> i & 1) == 1 ? p : 100 - p));
            }
            int k = Integer.bitCount(takers);
            ways[k] = ways[k].add(cases);
        }
        return ways;
    }

    private static int cheapest(BigInteger[] ways, int over, int under) {
        int best = 0;
        BigInteger least = null;
        for (int print = 0; print < ways.length; print++) {
            BigInteger cost = BigInteger.ZERO;
            for (int k = 0; k < ways.length; k++) {
                int each = k < print ? (print - k) * over : (k - print) * under;
                cost = cost.add(ways[k].multiply(BigInteger.valueOf(each)));
            }
            if (least == null || cost.compareTo(least) < 0) {
                least = cost;
                best = print;
            }
        }
        return best;
    }
}
