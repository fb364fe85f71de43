/** Terms 2 and 3, promises 19 to 21: a test for each sentence on the ledger that names a boundary case. */
public final class LedgerEdgesTest {
    private static final long REFUSED = -1000000000L;

    public static void main(String[] args) {
        nineHundredPaid();
        nineHundredWithAGift();
        noNineHundredAndFirstGift();
        nineHundredWithPaidOut();
        noNineHundredAndFirstPaidOut();
        struckOnesAreEntries();
        greatestMonthFits();
        noSuchEntry();
        noSuchWhatOfAnEntry();
        monthOfStriking();
        nothingElseChangesByStriking();
        refusedStrikes();
        strikesOfEverySort();
        entriesOfMonthsUpToTheFirst();
        struckInMonthsUpToTheSecond();
        monthsThatAreNotYet();
        balanceOfNoSuchMember();
        balanceOfNoSuchMonths();
        Check.finish();
    }

    /** Thirty-nine in house 0: room for one that joins. */
    static BookClub filledUpTo(int entries) {
        return filledUpTo("bonus=1,part=100", 39, entries);
    }

    /** A volume and its bonus for each a month while months end, then payments of member 0. */
    private static BookClub filledUpTo(String text, int members, int entries) {
        BookClub club = Check.clubWith(text, members);
        int made = club.count(5);
        for (; made + 2 * members <= Math.min(entries, 700); made += 2 * members) {
            Check.send(club, 1, members);
        }
        for (; made < entries; made++) {
            club.pay(0, 1);
        }
        Check.due("entries made", club.count(5), entries);
        return club;
    }

    // ---- 900

    private static void nineHundredPaid() {
        Check.sentence("Calls that would make more ENTRIES than 900 are refused");
        BookClub club = filledUpTo(899);
        long before = Check.member(club, 0, 5);
        Check.due("the last one", club.pay(0, 7), before + 7);
        Check.due("entries", club.count(5), 900);
        Check.entryDue(club, 899, 0, club.count(0), 1, 7);
        Check.due("one more", club.pay(0, 1), REFUSED);
        Check.due("of another", club.pay(38, 1), REFUSED);
        Check.due("entries", club.count(5), 900);
        Check.due("balance", Check.member(club, 0, 5), before + 7);
        Check.due("no entry 900", Check.entry(club, 900, 0), Check.THROWS);
    }

    private static void nineHundredWithAGift() {
        Check.sentence("Calls that would make more ENTRIES than 900 are refused");
        BookClub club = filledUpTo(899);
        Check.tell(club, "gift=1");
        Check.due("a join with the last entry", club.join(0, 1), 39);
        Check.entryDue(club, 899, 39, club.count(0), 0, 1);
    }

    private static void noNineHundredAndFirstGift() {
        Check.sentence("Calls that would make more ENTRIES than 900 are refused");
        BookClub gift = filledUpTo(900);
        Check.tell(gift, "gift=1");
        Check.due("a join with a gift", gift.join(0, 1), -1);
        Check.due("members", gift.count(1), 39);
        Check.tell(gift, "gift=0");
        Check.due("a join without the rule", gift.join(0, 1), 39);

        BookClub house = filledUpTo(900);
        Check.tell(house, "gift=1");
        Check.due("into a house whose members had no gift", house.join(0, 0), -1);

        BookClub had = filledUpTo("gift=1,bonus=1,part=100", 38, 900);
        Check.due("into a house that had its gift", had.join(0, 0), 38);
        Check.due("into another", had.join(0, 1), -1);
        Check.due("entries", had.count(5), 900);
    }

    private static void nineHundredWithPaidOut() {
        Check.sentence("Calls that would make more ENTRIES than 900 are refused");
        BookClub club = filledUpTo(899);
        long due = Check.member(club, 0, 5);
        Check.due("a leave with the last entry", club.leave(0), due);
        Check.entryDue(club, 899, 0, club.count(0), 6, -due);
    }

    private static void noNineHundredAndFirstPaidOut() {
        Check.sentence("Calls that would make more ENTRIES than 900 are refused");
        BookClub club = filledUpTo(898);
        club.pay(1, 1);
        club.pay(0, 1);
        Check.due("a leave with 1 to pay out", club.leave(1), -1);
        Check.due("it is in", Check.member(club, 1, 2), 0);
        Check.due("its balance", Check.member(club, 1, 5), 1);
        Check.due("a leave with nothing to pay out", club.leave(2), 0);
        Check.due("it is ended", Check.member(club, 2, 2), 2);
        Check.due("entries", club.count(5), 900);
    }

    private static void struckOnesAreEntries() {
        Check.sentence("ENTRIES (at most 900 in all)");
        BookClub club = filledUpTo(900);
        Check.due("the first is struck", club.strike(0), true);
        Check.due("the last is struck", club.strike(899), true);
        Check.due("entries", club.count(5), 900);
        Check.due("no room comes by striking", club.pay(0, 1), REFUSED);
    }

    /** Forty late refusals and forty volumes with a bonus: 160 entries, from 700 on. */
    private static void greatestMonthFits() {
        Check.sentence("a MONTH with fewer than 200 left does not end");
        BookClub club = Check.clubWith("limit=0,late=100,bonus=1,part=100", 40);
        int[] due = {80, 160, 240, 320, 400, 480, 560, 640};
        for (int month = 0; month < due.length; month++) {
            Check.due("sent", Check.send(club, 1, 40), 40);
            Check.due("entries behind month " + month, club.count(5), due[month]);
        }
        for (int member = 0; member < 40; member++) {
            club.refuse(member, 1);
        }
        Check.send(club, 1, 40);
        Check.due("entries", club.count(5), 720);
        Check.due("180 left", club.close(), -1);
        Check.due("none taken back", club.book(8, 4), 0);

        BookClub greatest = Check.clubWith("limit=0,late=100,bonus=1,part=100", 40);
        Check.closeTimes(greatest, 1);
        for (int month = 1; month <= 7; month++) {
            Check.send(greatest, 1, 40);
        }
        for (int member = 0; member < 40; member++) {
            greatest.refuse(member, 1);
        }
        Check.send(greatest, 1, 40);
        for (int i = 0; i < 60; i++) {
            greatest.pay(0, 1);
        }
        Check.due("entries", greatest.count(5), 700);
        Check.due("sent with 200 left", Check.send(greatest, 1, 40), 40);
        Check.due("entries", greatest.count(5), 860);
        Check.due("taken back", greatest.book(8, 4), 40);
    }

    // ---- entry

    private static void noSuchEntry() {
        Check.sentence("NoSuchElementException: none such, another what");
        BookClub club = Check.clubOf(1);
        Check.due("without entries", Check.entry(club, 0, 0), Check.THROWS);
        club.pay(0, 5);
        club.pay(0, 6);
        for (int e : Check.outside(0, 1)) {
            for (int what = 0; what <= 4; what++) {
                Check.due("entry(" + e + ", " + what + ")", Check.entry(club, e, what), Check.THROWS);
            }
        }
        Check.due("the last", Check.entry(club, 1, 3), 6);
    }

    private static void noSuchWhatOfAnEntry() {
        Check.sentence("NoSuchElementException: none such, another what");
        BookClub club = Check.clubOf(1);
        club.pay(0, 5);
        for (int what : Check.outside(0, 4)) {
            Check.due("entry(0, " + what + ")", Check.entry(club, 0, what), Check.THROWS);
        }
    }

    // ---- strike

    private static void monthOfStriking() {
        Check.sentence("4: the MONTH in which it was STRUCK (NONE)");
        BookClub club = Check.clubOf(1);
        club.pay(0, 30);
        club.pay(0, 4);
        club.pay(0, 1);
        Check.due("not struck", Check.entry(club, 0, 4), -1);
        club.strike(0);
        Check.due("struck in month 0", Check.entry(club, 0, 4), 0);
        club.close();
        club.strike(1);
        Check.due("struck in month 1", Check.entry(club, 1, 4), 1);
        Check.due("the other", Check.entry(club, 2, 4), -1);
    }

    private static void nothingElseChangesByStriking() {
        Check.sentence("An ENTRY is STRUCK: true. (Nothing else changes.)");
        BookClub club = Check.clubWith("dun=1,end=3,gift=5", 1);
        Check.send(club, 10, 1);
        int[] members = {0, 0, 1, 1, 1, -5, 0, 1, 0};
        membersDue(club, members);
        Check.due("strike the volume", club.strike(1), true);
        members[5] = 5;
        membersDue(club, members);
        Check.due("strike the gift", club.strike(0), true);
        members[5] = 0;
        membersDue(club, members);
        Check.due("entries", club.count(5), 2);
        Check.due("sent", club.book(0, 3), 1);
        Check.due("stock", club.book(0, 2), 0);
        Check.entryDue(club, 0, 0, 0, 0, 5);
        Check.entryDue(club, 1, 0, 0, 2, -10);
    }

    private static void membersDue(BookClub club, int[] due) {
        for (int what = 0; what < due.length; what++) {
            Check.due("member(0, " + what + ")", Check.member(club, 0, what), due[what]);
        }
    }

    private static void refusedStrikes() {
        Check.sentence("Refused: none such, it was");
        BookClub club = Check.clubOf(1);
        Check.due("without entries", club.strike(0), false);
        club.pay(0, 30);
        club.pay(0, 4);
        for (int e : Check.outside(0, 1)) {
            Check.due("strike(" + e + ")", club.strike(e), false);
        }
        Check.due("balance", Check.member(club, 0, 5), 34);
        Check.due("strike(1)", club.strike(1), true);
        Check.due("strike(1) again", club.strike(1), false);
        club.close();
        Check.due("strike(1) in the next month", club.strike(1), false);
        Check.due("it was struck in month 0", Check.entry(club, 1, 4), 0);
        Check.due("balance", Check.member(club, 0, 5), 30);
    }

    private static void strikesOfEverySort() {
        Check.sentence("BALANCE: the sum of its AMOUNTS (those of STRUCK ones not)");
        BookClub club = Check.clubWith("limit=0,late=10,bonus=1,part=50,gift=3", 1);
        club.pay(0, 200);
        club.refuse(0, 1);
        Check.send(club, 40, 1);
        club.close();
        Check.due("paid out", club.leave(0), 219);
        int[][] rows = {{0, 3}, {1, 200}, {2, -40}, {5, 20}, {3, 40}, {4, -4}, {6, -219}};
        long balance = 0;
        for (int e = 0; e < rows.length; e++) {
            Check.due("sort of entry " + e, Check.entry(club, e, 2), rows[e][0]);
            Check.due("amount of entry " + e, Check.entry(club, e, 3), rows[e][1]);
            Check.due("strike(" + e + ")", club.strike(e), true);
            balance -= rows[e][1];
            Check.due("balance", Check.member(club, 0, 5), balance);
        }
    }

    // ---- balance

    private static void entriesOfMonthsUpToTheFirst() {
        Check.sentence("ENTRIES of MONTHS up to the first");
        BookClub club = Check.clubOf(2);
        club.pay(0, 1);
        club.pay(1, 5000);
        club.close();
        club.pay(0, 10);
        club.close();
        club.pay(0, 100);
        long[] due = {1, 11, 111, 111};
        for (int month = 0; month < due.length; month++) {
            Check.due("behind month " + month, Check.balance(club, 0, month, 60), due[month]);
            Check.due("behind month " + month + ", known in 0", Check.balance(club, 0, month, 0), due[month]);
        }
    }

    private static void struckInMonthsUpToTheSecond() {
        Check.sentence("but those STRUCK in MONTHS up to the second");
        BookClub club = Check.clubOf(1);
        club.pay(0, 1);
        club.pay(0, 10);
        club.pay(0, 100);
        club.strike(0);
        club.close();
        club.strike(1);
        club.close();
        club.pay(0, 1000);
        club.close();
        club.strike(3);
        long[][] due = {{110, 100, 100, 100, 100}, {110, 100, 100, 100, 100}, {1110, 1100, 1100, 100, 100}};
        for (int month = 0; month < due.length; month++) {
            for (int known = 0; known < due[month].length; known++) {
                Check.due("behind " + month + ", known in " + known,
                        Check.balance(club, 0, month, known), due[month][known]);
            }
        }
    }

    private static void monthsThatAreNotYet() {
        Check.sentence("BALANCE of a MEMBER behind a MONTH, as known in a MONTH");
        BookClub club = Check.clubOf(1);
        Check.due("without entries", Check.balance(club, 0, 0, 0), 0);
        club.pay(0, 7);
        Check.due("behind month 60", Check.balance(club, 0, 60, 0), 7);
        club.strike(0);
        Check.due("known in month 60", Check.balance(club, 0, 60, 60), 0);
        Check.due("known in month 0", Check.balance(club, 0, 0, 0), 0);
    }

    private static void balanceOfNoSuchMember() {
        Check.sentence("NoSuchElementException: no such MEMBER, MONTHS (0 .. 60)");
        BookClub club = new BookClub();
        Check.due("without members", Check.balance(club, 0, 0, 0), Check.THROWS);
        club.join(0, 0);
        Check.due("balance(0, 0, 0)", Check.balance(club, 0, 0, 0), 0);
        for (int member : Check.outside(0, 0)) {
            Check.due("balance(" + member + ", 0, 0)", Check.balance(club, member, 0, 0), Check.THROWS);
        }
    }

    private static void balanceOfNoSuchMonths() {
        Check.sentence("NoSuchElementException: no such MEMBER, MONTHS (0 .. 60)");
        BookClub club = Check.clubOf(1);
        Check.due("balance(0, 60, 60)", Check.balance(club, 0, 60, 60), 0);
        for (int month : Check.outside(0, 60)) {
            Check.due("balance(0, " + month + ", 0)", Check.balance(club, 0, month, 0), Check.THROWS);
            Check.due("balance(0, 0, " + month + ")", Check.balance(club, 0, 0, month), Check.THROWS);
        }
    }
}
