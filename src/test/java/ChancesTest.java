import java.math.BigInteger;

/** Promises 22 to 24: ways and prints by exact chances. */
public final class ChancesTest {
    public static void main(String[] args) {
        chancesTold();
        waysByHand();
        digitsOfKinds();
        waysRefuse();
        waysAndPrintsAgainstAllCases();
        equalCosts();
        greatestCost();
        printRefuses();
        Check.finish();
    }

    private static void chancesTold() {
        BookClub club = new BookClub();
        for (int kind = 0; kind < 4; kind++) {
            Check.due("ways of kind " + kind + " at first", club.ways(1, kind, 1), 50);
            Check.due("chance", club.chance(kind, 10 * kind), true);
        }
        for (int kind = 0; kind < 4; kind++) {
            Check.due("ways of kind " + kind, club.ways(1, kind, 1), 10 * kind);
            Check.due("ways of kind " + kind + " to refuse", club.ways(1, kind, 0), 100 - 10 * kind);
        }
        Check.due("chance(-1, 5)", club.chance(-1, 5), false);
        Check.due("chance(4, 5)", club.chance(4, 5), false);
        Check.due("chance(1, -1)", club.chance(1, -1), false);
        Check.due("chance(1, 101)", club.chance(1, 101), false);
        Check.due("unchanged", club.ways(1, 1, 1), 10);
        Check.due("chance(1, 0)", club.chance(1, 0), true);
        Check.due("chance(2, 100)", club.chance(2, 100), true);
        Check.due("never", club.ways(1, 1, 1), 0);
        Check.due("always", club.ways(1, 2, 1), 100);
    }

    private static void waysByHand() {
        BookClub club = new BookClub();
        club.chance(0, 30);
        club.chance(1, 80);
        Check.due("none", club.ways(2, 4, 0), 70 * 20);
        Check.due("one", club.ways(2, 4, 1), 30 * 20 + 70 * 80);
        Check.due("both", club.ways(2, 4, 2), 30 * 80);
        club.chance(3, 100);
        Check.due("all of eight for certain", club.ways(8, 65535, 8), 10000000000000000L);
    }

    private static void digitsOfKinds() {
        BookClub club = new BookClub();
        club.chance(0, 0);
        club.chance(1, 1);
        club.chance(2, 2);
        club.chance(3, 3);
        Check.due("3, 2, 1", club.ways(3, 3 + 2 * 4 + 16, 3), 6);
        Check.due("3, 3, 0", club.ways(3, 15, 2), 900);
    }

    private static void waysRefuse() {
        BookClub club = new BookClub();
        Check.due("n 0", club.ways(0, 0, 0), -1);
        Check.due("n 9", club.ways(9, 0, 0), -1);
        Check.due("n -1", club.ways(-1, 0, 0), -1);
        Check.due("n 16", club.ways(16, 0, 0), -1);
        Check.due("k -1", club.ways(2, 0, -1), -1);
        Check.due("k 3 of 2", club.ways(2, 0, 3), -1);
        Check.due("k n", club.ways(2, 0, 2), 2500);
        Check.due("kinds 4 of one", club.ways(1, 4, 0), -1);
        Check.due("kinds 65536 of eight", club.ways(8, 65536, 0), -1);
        Check.due("kinds 65535 of eight", club.ways(8, 65535, 0), 39062500000000L);
        Check.due("kinds -1", club.ways(8, -1, 0), -1);
        Check.due("least kinds", club.ways(8, Integer.MIN_VALUE, 0), -1);
        Check.due("greatest kinds", club.ways(8, Integer.MAX_VALUE, 0), -1);
    }

    /** Goes through every subset of those who take it, apart from the way the class counts. */
    private static void waysAndPrintsAgainstAllCases() {
        int[] percents = {7, 50, 93, 31};
        int[][] rates = {{1, 1}, {1, 99}, {99, 1}, {3, 7}, {50, 49}};
        BookClub club = new BookClub();
        for (int kind = 0; kind < 4; kind++) {
            club.chance(kind, percents[kind]);
        }
        for (int n = 1; n <= 8; n++) {
            int kinds = (int) (0x6C1B93L * n % (1 << (2 * n)));
            BigInteger[] ways = allCases(n, kinds, percents);
            for (int k = 0; k <= n; k++) {
                Check.due("ways(" + n + ", " + kinds + ", " + k + ")", club.ways(n, kinds, k), ways[k].longValueExact());
            }
            for (int[] rate : rates) {
                Check.due("print(" + n + ", " + kinds + ", " + rate[0] + ", " + rate[1] + ")",
                        club.print(n, kinds, rate[0], rate[1]), cheapest(ways, rate[0], rate[1]));
            }
        }
    }

    private static BigInteger[] allCases(int n, int kinds, int[] percents) {
        BigInteger[] ways = new BigInteger[n + 1];
        for (int k = 0; k <= n; k++) {
            ways[k] = BigInteger.ZERO;
        }
        for (int takers = 0; takers < 1 << n; takers++) {
            BigInteger cases = BigInteger.ONE;
            for (int i = 0; i < n; i++) {
                int p = percents[(kinds >> (2 * i)) & 3];
                cases = cases.multiply(BigInteger.valueOf((takers >> i & 1) == 1 ? p : 100 - p));
            }
            int k = Integer.bitCount(takers);
            ways[k] = ways[k].add(cases);
        }
        return ways;
    }

    private static int cheapest(BigInteger[] ways, int over, int under) {
        int best = 0;
        BigInteger least = null;
        for (int print = 0; print < ways.length; print++) {
            BigInteger cost = BigInteger.ZERO;
            for (int k = 0; k < ways.length; k++) {
                int each = k < print ? (print - k) * over : (k - print) * under;
                cost = cost.add(ways[k].multiply(BigInteger.valueOf(each)));
            }
            if (least == null || cost.compareTo(least) < 0) {
                least = cost;
                best = print;
            }
        }
        return best;
    }

    private static void equalCosts() {
        BookClub club = new BookClub();
        Check.due("of equal ones the least", club.print(1, 0, 99, 99), 0);
        Check.due("of equal ones the least, three", club.print(3, 0, 1, 1), 1);
        Check.due("a little more under", club.print(1, 0, 98, 99), 1);
    }

    private static void greatestCost() {
        BookClub club = new BookClub();
        club.chance(0, 0);
        Check.due("none takes it", club.print(8, 0, 99, 99), 0);
        club.chance(0, 100);
        Check.due("all take it", club.print(8, 0, 99, 99), 8);
        Check.due("all take it, dear to print", club.print(8, 0, 99, 1), 8);
    }

    private static void printRefuses() {
        BookClub club = new BookClub();
        Check.due("n 0", club.print(0, 0, 1, 1), -1);
        Check.due("n 9", club.print(9, 0, 1, 1), -1);
        Check.due("kinds -1", club.print(2, -1, 1, 1), -1);
        Check.due("kinds 16 of two", club.print(2, 16, 1, 1), -1);
        Check.due("over 0", club.print(2, 0, 0, 1), -1);
        Check.due("over 100", club.print(2, 0, 100, 1), -1);
        Check.due("under 0", club.print(2, 0, 1, 0), -1);
        Check.due("under 100", club.print(2, 0, 1, 100), -1);
        Check.due("over and under 99", club.print(2, 0, 99, 99), 1);
    }
}
