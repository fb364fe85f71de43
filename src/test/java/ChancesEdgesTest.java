/** Terms 3 and promises 22 to 24: a test for each sentence on chances that names a boundary case. */
public final class ChancesEdgesTest {
    private static final long ALL_OF_EIGHT = 10000000000000000L;

    public static void main(String[] args) {
        fiftyAtFirst();
        percentsUpToAHundred();
        refusedChances();
        oneUpToEight();
        refusedSizes();
        takersUpToAll();
        refusedTakers();
        digitsLowestFirst();
        digitsUpToTheirNumber();
        kindsBelowZero();
        allCasesAreCounted();
        ratesUpToNinetyNine();
        refusedRates();
        refusedGroupsOfAPrint();
        printsUpToAll();
        leastOfEqualCosts();
        greatestCosts();
        Check.finish();
    }

    private static void fiftyAtFirst() {
        Check.sentence("p told for each KIND, 0 .. 100, at first 50");
        BookClub club = new BookClub();
        for (int kind = 0; kind <= 3; kind++) {
            Check.due("kind " + kind + " takes it", club.ways(1, kind, 1), 50);
            Check.due("kind " + kind + " does not", club.ways(1, kind, 0), 50);
        }
    }

    private static void percentsUpToAHundred() {
        Check.sentence("p of a KIND: true");
        BookClub club = new BookClub();
        int[] percents = {0, 100, 1, 99};
        for (int kind = 0; kind <= 3; kind++) {
            Check.due("chance(" + kind + ", " + percents[kind] + ")", club.chance(kind, percents[kind]), true);
        }
        for (int kind = 0; kind <= 3; kind++) {
            Check.due("kind " + kind + " takes it", club.ways(1, kind, 1), percents[kind]);
            Check.due("kind " + kind + " does not", club.ways(1, kind, 0), 100 - percents[kind]);
        }
    }

    private static void refusedChances() {
        Check.sentence("p of a KIND: true. Refused: others");
        BookClub club = new BookClub();
        for (int kind : Check.outside(0, 3)) {
            Check.due("chance(" + kind + ", 7)", club.chance(kind, 7), false);
        }
        for (int p : Check.outside(0, 100)) {
            Check.due("chance(0, " + p + ")", club.chance(0, p), false);
            Check.due("chance(3, " + p + ")", club.chance(3, p), false);
        }
        for (int kind = 0; kind <= 3; kind++) {
            Check.due("kind " + kind, club.ways(1, kind, 1), 50);
        }
    }

    private static void oneUpToEight() {
        Check.sentence("of each of n KINDS (n 1 .. 8)");
        BookClub club = new BookClub();
        club.chance(0, 1);
        long all = 1;
        for (int n = 1; n <= 8; n++) {
            Check.due("all of " + n, club.ways(n, 0, n), 1);
            all *= 99;
            Check.due("none of " + n, club.ways(n, 0, 0), all);
            Check.due("print of " + n, club.print(n, 0, 99, 1), 0);
        }
    }

    private static void refusedSizes() {
        Check.sentence("NONE: n, k not 0 .. n, others");
        BookClub club = new BookClub();
        for (int n : Check.outside(1, 8)) {
            Check.due("ways(" + n + ", 0, 0)", club.ways(n, 0, 0), -1);
            Check.due("ways(" + n + ", 0, 1)", club.ways(n, 0, 1), -1);
        }
        Check.due("n 16: its shift is an int's width", club.ways(16, 0, 0), -1);
        Check.due("n 17: its shift is wider", club.ways(17, 1, 0), -1);
    }

    private static void takersUpToAll() {
        Check.sentence("WAYS of k: in how many of 100^n like cases just k take it");
        BookClub club = new BookClub();
        Check.due("none of two", club.ways(2, 0, 0), 2500);
        Check.due("one of two", club.ways(2, 0, 1), 5000);
        Check.due("both of two", club.ways(2, 0, 2), 2500);
        club.chance(1, 0);
        club.chance(2, 100);
        Check.due("none, of those who never take it", club.ways(8, 0x5555, 0), ALL_OF_EIGHT);
        Check.due("one, of those who never take it", club.ways(8, 0x5555, 1), 0);
        Check.due("all, of those who never take it", club.ways(8, 0x5555, 8), 0);
        Check.due("all, of those who always take it", club.ways(8, 0xAAAA, 8), ALL_OF_EIGHT);
        Check.due("seven, of those who always take it", club.ways(8, 0xAAAA, 7), 0);
        Check.due("none, of those who always take it", club.ways(8, 0xAAAA, 0), 0);
    }

    private static void refusedTakers() {
        Check.sentence("NONE: n, k not 0 .. n, others");
        BookClub club = new BookClub();
        for (int n = 1; n <= 8; n++) {
            for (int k : Check.outside(0, n)) {
                Check.due("ways(" + n + ", 0, " + k + ")", club.ways(n, 0, k), -1);
            }
        }
    }

    private static void digitsLowestFirst() {
        Check.sentence("its digits by 4, n of them, the lowest first, are their KINDS");
        BookClub club = new BookClub();
        club.chance(0, 0);
        club.chance(1, 1);
        club.chance(2, 2);
        club.chance(3, 3);
        Check.due("3, 2, 1", club.ways(3, 3 + 2 * 4 + 16, 3), 6);
        Check.due("1, 2, 3", club.ways(3, 1 + 2 * 4 + 3 * 16, 3), 6);
        Check.due("3, 3, 0: two", club.ways(3, 15, 2), 900);
        Check.due("3, 3, 0: three", club.ways(3, 15, 3), 0);
        Check.due("zeros ahead are kinds, too", club.ways(8, 3, 1), 3 * 100000000000000L);
    }

    private static void digitsUpToTheirNumber() {
        Check.sentence("the number has more digits, or is below 0");
        BookClub club = new BookClub();
        for (int n = 1; n <= 8; n++) {
            int most = (1 << (2 * n)) - 1;
            Check.due("the greatest of " + n, club.ways(n, most, 0), club.ways(n, 0, 0));
            Check.due("the greatest of " + n + " is taken", club.ways(n, most, 0) > 0, true);
            Check.due("one more than that", club.ways(n, most + 1, 0), -1);
            Check.due("the greatest int", club.ways(n, Integer.MAX_VALUE, 0), -1);
            Check.due("print of the greatest", club.print(n, most, 99, 1) >= 0, true);
            Check.due("print of one more", club.print(n, most + 1, 99, 1), -1);
        }
    }

    private static void kindsBelowZero() {
        Check.sentence("the number has more digits, or is below 0");
        BookClub club = new BookClub();
        int[] below = {-1, -4, -65536, Integer.MIN_VALUE};
        for (int kinds : below) {
            for (int n = 1; n <= 8; n++) {
                Check.due("ways(" + n + ", " + kinds + ", 0)", club.ways(n, kinds, 0), -1);
                Check.due("print(" + n + ", " + kinds + ", 1, 1)", club.print(n, kinds, 1, 1), -1);
            }
        }
    }

    private static void allCasesAreCounted() {
        Check.sentence("in how many of 100^n like cases just k take it");
        BookClub club = new BookClub();
        int[] percents = {3, 97, 50, 38};
        for (int kind = 0; kind <= 3; kind++) {
            club.chance(kind, percents[kind]);
        }
        long all = 1;
        for (int n = 1; n <= 8; n++) {
            all *= 100;
            long sum = 0;
            for (int k = 0; k <= n; k++) {
                sum += club.ways(n, 0xE4E4 & (1 << (2 * n)) - 1, k);
            }
            Check.due("all cases of " + n, sum, all);
        }
    }

    private static void ratesUpToNinetyNine() {
        Check.sentence("over (1 .. 99) for each volume too many, and under (1 .. 99) for each too few");
        BookClub club = new BookClub();
        Check.due("over 1, under 99", club.print(1, 0, 1, 99), 1);
        Check.due("over 99, under 1", club.print(1, 0, 99, 1), 0);
        Check.due("over 98, under 99", club.print(1, 0, 98, 99), 1);
        Check.due("over 99, under 98", club.print(1, 0, 99, 98), 0);
        club.chance(0, 1);
        Check.due("one of a hundred, over 1, under 99", club.print(1, 0, 1, 99), 0);
        club.chance(0, 2);
        Check.due("two of a hundred, over 1, under 99", club.print(1, 0, 1, 99), 1);
        club.chance(0, 99);
        Check.due("99 of a hundred, over 99, under 1", club.print(1, 0, 99, 1), 0);
        Check.due("99 of a hundred, over 98, under 1", club.print(1, 0, 98, 1), 1);
    }

    private static void refusedRates() {
        Check.sentence("The PRINT (0 .. n) with the least COST; of equal ones the least. NONE: others");
        BookClub club = new BookClub();
        for (int rate : Check.outside(1, 99)) {
            Check.due("over " + rate, club.print(2, 0, rate, 1), -1);
            Check.due("under " + rate, club.print(2, 0, 1, rate), -1);
        }
    }

    private static void refusedGroupsOfAPrint() {
        Check.sentence("The PRINT (0 .. n) with the least COST; of equal ones the least. NONE: others");
        BookClub club = new BookClub();
        for (int n : Check.outside(1, 8)) {
            Check.due("print(" + n + ", 0, 1, 1)", club.print(n, 0, 1, 1), -1);
        }
        Check.due("print(16, 0, 1, 1)", club.print(16, 0, 1, 1), -1);
    }

    private static void printsUpToAll() {
        Check.sentence("The PRINT (0 .. n) with the least COST");
        BookClub club = new BookClub();
        for (int n = 1; n <= 8; n++) {
            club.chance(0, 0);
            Check.due("none of " + n, club.print(n, 0, 1, 99), 0);
            club.chance(0, 100);
            Check.due("all of " + n, club.print(n, 0, 99, 1), n);
        }
    }

    private static void leastOfEqualCosts() {
        Check.sentence("of equal ones the least");
        BookClub club = new BookClub();
        for (int rate = 1; rate <= 99; rate += 49) {
            Check.due("0 and 1 of one", club.print(1, 0, rate, rate), 0);
            Check.due("1 and 2 of three", club.print(3, 0, rate, rate), 1);
            Check.due("3 and 4 of seven", club.print(7, 0, rate, rate), 3);
        }
        Check.due("1 and 2 of two", club.print(2, 0, 1, 3), 1);
        Check.due("0 and 1 of two", club.print(2, 0, 3, 1), 0);
    }

    private static void greatestCosts() {
        Check.sentence("COST of a PRINT of c: the sum over all cases");
        BookClub club = new BookClub();
        club.chance(0, 0);
        Check.due("none of eight takes it", club.print(8, 0, 99, 99), 0);
        club.chance(0, 100);
        Check.due("all of eight take it", club.print(8, 0, 99, 99), 8);
        club.chance(0, 50);
        Check.due("half of eight", club.print(8, 0, 99, 99), 4);
    }
}
