/** Promises 19 to 21 in ordinary runs; their boundary cases are in LedgerEdgesTest. */
public final class LedgerTest {
    public static void main(String[] args) {
        striking();
        balancesInTwoTimes();
        Check.finish();
    }

    private static void striking() {
        BookClub club = new BookClub();
        club.join(0, 0);
        club.pay(0, 30);
        club.pay(0, 4);
        club.close();
        Check.due("strike(0)", club.strike(0), true);
        Check.due("struck in", Check.entry(club, 0, 4), 1);
        Check.due("its amount stays", Check.entry(club, 0, 3), 30);
        Check.due("its month stays", Check.entry(club, 0, 1), 0);
        Check.due("balance", Check.member(club, 0, 5), 4);
        club.close();
        Check.due("strike it again", club.strike(0), false);
        Check.due("struck in the first month", Check.entry(club, 0, 4), 1);
        Check.due("balance stays", Check.member(club, 0, 5), 4);
        Check.due("entries stay", club.count(5), 2);
        Check.due("what is paid out then", club.leave(0), 4);
    }

    private static void balancesInTwoTimes() {
        BookClub club = new BookClub();
        club.join(0, 0);
        club.join(0, 0);
        club.pay(0, 1);
        club.close();
        club.pay(0, 10);
        club.pay(1, 5000);
        club.close();
        club.pay(0, 100);
        club.strike(0);
        club.close();
        club.strike(1);
        long[][] due = {{1, 1, 0, 0, 0}, {11, 11, 10, 0, 0}, {111, 111, 110, 100, 100}, {111, 111, 110, 100, 100}};
        for (int month = 0; month < due.length; month++) {
            for (int known = 0; known < due[month].length; known++) {
                Check.due("behind " + month + ", known in " + known,
                        Check.balance(club, 0, month, known), due[month][known]);
            }
        }
        Check.due("months that are not yet", Check.balance(club, 0, 60, 60), 100);
        Check.due("struck ones as known in 0", Check.balance(club, 0, 60, 0), 111);
        Check.due("the other member", Check.balance(club, 1, 60, 60), 5000);
        Check.due("the other member at first", Check.balance(club, 1, 0, 0), 0);
    }
}
