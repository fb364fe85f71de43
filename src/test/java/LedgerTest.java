/** Promises 19 to 21, and the limit of 900 entries. */
public final class LedgerTest {
    private static final long REFUSED = -1000000000L;

    public static void main(String[] args) {
        entries();
        striking();
        balancesInTwoTimes();
        balanceRefuses();
        monthsNeedTwoHundredEntries();
        nineHundredEntries();
        theLastEntryMayBeAGiftOrPaidOut();
        Check.finish();
    }

    private static void entries() {
        BookClub club = Check.clubWith("gift=2");
        club.join(0, 0);
        club.pay(0, 3);
        Check.entryDue(club, 0, 0, 0, 0, 2);
        Check.entryDue(club, 1, 0, 0, 1, 3);
        Check.due("not struck", Check.entry(club, 0, 4), -1);
        Check.due("entry(0, 5)", Check.entry(club, 0, 5), Check.THROWS);
        Check.due("entry(0, -1)", Check.entry(club, 0, -1), Check.THROWS);
        Check.due("entry(2, 0)", Check.entry(club, 2, 0), Check.THROWS);
        Check.due("entry(-1, 0)", Check.entry(club, -1, 0), Check.THROWS);
    }

    private static void striking() {
        BookClub club = new BookClub();
        club.join(0, 0);
        club.pay(0, 30);
        club.pay(0, 4);
        club.close();
        Check.due("strike(-1)", club.strike(-1), false);
        Check.due("strike(2)", club.strike(2), false);
        Check.due("strike(0)", club.strike(0), true);
        Check.due("struck in", Check.entry(club, 0, 4), 1);
        Check.due("its amount stays", Check.entry(club, 0, 3), 30);
        Check.due("its month stays", Check.entry(club, 0, 1), 0);
        Check.due("balance", Check.member(club, 0, 5), 4);
        club.close();
        Check.due("strike it again", club.strike(0), false);
        Check.due("struck in the first month", Check.entry(club, 0, 4), 1);
        Check.due("balance stays", Check.member(club, 0, 5), 4);
        Check.due("entries stay", club.count(5), 2);
        Check.due("what is paid out then", club.leave(0), 4);
    }

    private static void balancesInTwoTimes() {
        BookClub club = new BookClub();
        club.join(0, 0);
        club.join(0, 0);
        club.pay(0, 1);
        club.close();
        club.pay(0, 10);
        club.pay(1, 5000);
        club.close();
        club.pay(0, 100);
        club.strike(0);
        club.close();
        club.strike(1);
        long[][] due = {{1, 1, 0, 0, 0}, {11, 11, 10, 0, 0}, {111, 111, 110, 100, 100}, {111, 111, 110, 100, 100}};
        for (int month = 0; month < due.length; month++) {
            for (int known = 0; known < due[month].length; known++) {
                Check.due("behind " + month + ", known in " + known,
                        Check.balance(club, 0, month, known), due[month][known]);
            }
        }
        Check.due("months that are not yet", Check.balance(club, 0, 60, 60), 100);
        Check.due("struck ones as known in 0", Check.balance(club, 0, 60, 0), 111);
        Check.due("the other member", Check.balance(club, 1, 60, 60), 5000);
        Check.due("the other member at first", Check.balance(club, 1, 0, 0), 0);
    }

    private static void balanceRefuses() {
        BookClub club = new BookClub();
        club.join(0, 0);
        Check.due("balance(0, 0, 0)", Check.balance(club, 0, 0, 0), 0);
        Check.due("balance(1, 0, 0)", Check.balance(club, 1, 0, 0), Check.THROWS);
        Check.due("balance(-1, 0, 0)", Check.balance(club, -1, 0, 0), Check.THROWS);
        Check.due("balance(0, -1, 0)", Check.balance(club, 0, -1, 0), Check.THROWS);
        Check.due("balance(0, 61, 0)", Check.balance(club, 0, 61, 0), Check.THROWS);
        Check.due("balance(0, 0, -1)", Check.balance(club, 0, 0, -1), Check.THROWS);
        Check.due("balance(0, 0, 61)", Check.balance(club, 0, 0, 61), Check.THROWS);
    }

    /** Thirty-nine in house 0 and, with two entries each a month, 78 of them a month: far below 512 calls. */
    private static BookClub filledUpTo(int entries) {
        BookClub club = Check.clubWith("bonus=1,part=100,gift=1@20");
        for (int i = 0; i < 39; i++) {
            club.join(0, 0);
        }
        int made = 0;
        for (; made + 78 <= Math.min(entries, 700); made += 78) {
            club.choice(1, 39);
            club.close();
        }
        for (; made < entries; made++) {
            club.pay(0, 1);
        }
        Check.due("entries made", club.count(5), entries);
        return club;
    }

    private static void monthsNeedTwoHundredEntries() {
        BookClub club = filledUpTo(700);
        Check.due("close with 200 left", club.close(), 0);
        club.pay(0, 1);
        int month = club.count(0);
        club.choice(1, 3);
        Check.due("close with 199 left", club.close(), -1);
        Check.due("month", club.count(0), month);
        Check.due("nothing sent", club.book(month, 3), 0);
        club.strike(0);
        Check.due("a struck one counts", club.close(), -1);
    }

    private static void nineHundredEntries() {
        BookClub club = filledUpTo(899);
        Check.tell(club, "gift=7");
        long before = Check.member(club, 0, 5);
        Check.due("the last entry", club.pay(0, 1), before + 1);
        Check.due("entries", club.count(5), 900);
        Check.due("pay beyond", club.pay(0, 1), REFUSED);
        Check.due("balance stays", Check.member(club, 0, 5), before + 1);
        Check.due("a leave with something to pay out", club.leave(0), -1);
        Check.due("it is in", Check.member(club, 0, 2), 0);
        Check.due("a leave with nothing to pay out", club.leave(1), 0);
        Check.due("it is ended", Check.member(club, 1, 2), 2);
        Check.due("a join with a gift", club.join(0, 1), -1);
        Check.due("members", club.count(1), 39);
        Check.tell(club, "gift=0");
        Check.due("a join without a gift", club.join(0, 1), 39);
        Check.due("entries still", club.count(5), 900);
        Check.due("close", club.close(), -1);
        Check.due("the last one can be struck", club.strike(899), true);
        Check.due("no room comes by striking", club.pay(0, 1), REFUSED);
    }

    private static void theLastEntryMayBeAGiftOrPaidOut() {
        BookClub gift = filledUpTo(899);
        Check.tell(gift, "gift=1");
        Check.due("a join with the last entry", gift.join(0, 1), 39);
        Check.entryDue(gift, 899, 39, gift.count(0), 0, 1);

        BookClub out = filledUpTo(899);
        long due = Check.member(out, 0, 5);
        Check.due("a leave with the last entry", out.leave(0), due);
        Check.entryDue(out, 899, 0, out.count(0), 6, -due);

        BookClub one = filledUpTo(898);
        one.pay(1, 1);
        one.pay(0, 1);
        Check.tell(one, "gift=1");
        Check.due("a leave with 1 to pay out, without room", one.leave(1), -1);
        Check.due("a join with a gift of 1, without room", one.join(0, 1), -1);
    }
}
