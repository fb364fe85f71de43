import java.util.NoSuchElementException;
import java.util.Random;

/**
 * Runs of 512 calls by chance (always the same ones): nothing but the document's exception, and sums that agree.
 * The sums are read by calls beyond the 512th: the document leaves those free, this class answers them all the same.
 */
public final class RandomRunsTest {
    private static final int RUNS = 400;
    private static final int CALLS = 512;
    private static final int[] EDGES = {Integer.MIN_VALUE, -1000, -2, -1, 0, 1, 2, 3, 4, 5, 7, 8, 9, 10, 11, 19, 20, 21,
        29, 30, 31, 39, 40, 59, 60, 61, 99, 100, 101, 200, 899, 900, 1000, 1001, 5000, 5001, 65535, 65536, 100000,
        100001, Integer.MAX_VALUE};
    private static final String[] TEXTS = {"limit=0", "limit=4", "late=20", "bonus=1", "bonus=3", "gift=12", "debt=30",
        "dun=0", "dun=2", "end=0", "end=3", "part=200", "part=10000", "", "limit", "gift=10001", "late=7@3, late=9@2"};

    public static void main(String[] args) {
        for (int run = 0; run < RUNS; run++) {
            Random random = new Random(run);
            BookClub club = new BookClub();
            for (int call = 0; call < CALLS; call++) {
                callSafely(club, random, run);
            }
            sumsAgree(club, run);
        }
        Check.finish();
    }

    private static void callSafely(BookClub club, Random random, int run) {
        int which = random.nextInt(34);
        try {
            call(club, random, which);
        } catch (NoSuchElementException none) {
            boolean may = which == 10 || which == 17 || which == 19;
            Check.due("run " + run + ", call " + which + " may throw", may, true);
        } catch (RuntimeException other) {
            Check.due("run " + run + ", call " + which + " threw " + other, true, false);
        }
    }

    private static void call(BookClub club, Random random, int which) {
        int a = number(random);
        int b = number(random);
        int c = number(random);
        int d = number(random);
        switch (which) {
            case 0: club.feed(a, b, c, d, random.nextInt()); break;
            case 1: club.end(a); break;
            case 2: club.rules(); break;
            case 3: club.fault(a); break;
            case 4: club.rule(a, b); break;
            case 5: club.lag(a, b); break;
            case 6: club.join(a, b); break;
            case 7: club.move(a, b); break;
            case 8: club.pay(a, b); break;
            case 9: if (random.nextInt(8) == 0) club.leave(a); break;
            case 10: club.member(a, b); break;
            case 11: club.choice(a, b); break;
            case 12: club.refuse(a, b); break;
            case 13: club.close(); break;
            case 14: club.clear(a, b, c); break;
            case 15: club.book(a, b); break;
            case 16: club.count(a); break;
            case 17: club.entry(a, b); break;
            case 18: club.strike(a); break;
            case 19: club.balance(a, b, c); break;
            case 20: club.chance(a, b); break;
            case 21: club.ways(a, b, c); break;
            case 22: club.print(a, b, c, d); break;
            case 23: club.mark(a, b, c); break;
            case 24: club.kin(a, b, random.nextBoolean()); break;
            case 25: club.middle(a); break;
            case 26: club.winner(); break;
            case 27: club.end(0); Check.tell(club, TEXTS[random.nextInt(TEXTS.length)]); break;
            case 28: case 29: club.join(random.nextInt(4), random.nextInt(10)); break;
            case 30: club.choice(random.nextInt(200), random.nextInt(30)); break;
            case 31: case 32: club.refuse(random.nextInt(40), 1 + random.nextInt(20)); break;
            default: club.close(); break;
        }
    }

    private static int number(Random random) {
        return random.nextInt(3) == 0 ? EDGES[random.nextInt(EDGES.length)] : random.nextInt(12);
    }

    private static void sumsAgree(BookClub club, int run) {
        String name = "run " + run + ": ";
        int members = club.count(1);
        Check.due(name + "states", club.count(2) + club.count(3) + club.count(4), members);
        long sent = 0;
        for (int month = 0; month <= club.count(0); month++) {
            Check.due(name + "printed of month " + month, club.book(month, 1), club.book(month, 2)
                    + club.book(month, 3) + club.book(month, 5) + club.book(month, 6) - club.book(month, 4));
            sent += club.book(month, 3);
        }
        long bought = 0;
        for (int m = 0; m < members; m++) {
            bought += club.member(m, 3);
            Check.due(name + "balance of " + m, club.member(m, 5), unstruck(club, m));
            Check.due(name + "balance known at the last of " + m, club.balance(m, 60, 60), unstruck(club, m));
            Check.due(name + "sent and short of " + m, club.member(m, 7) + club.member(m, 8) <= 1, true);
        }
        Check.due(name + "bought", bought, sent);
    }

    private static long unstruck(BookClub club, int m) {
        long sum = 0;
        for (int e = 0; e < club.count(5); e++) {
            if (club.entry(e, 0) == m && club.entry(e, 4) == -1) {
                sum += club.entry(e, 3);
            }
        }
        return sum;
    }
}
