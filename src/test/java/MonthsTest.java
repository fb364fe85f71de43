/** Promises 13 to 18: choices, refusals, the month's end and stock. */
public final class MonthsTest {
    public static void main(String[] args) {
        choices();
        refusals();
        inTimeOrNot();
        refusalsOnTheFirstDay();
        limitIsThatOfTheMonthsEnd();
        sending();
        shortOfStock();
        takingBack();
        takingBackFromEndedOnes();
        takingBackAtNoPrice();
        takingBackOnceAlone();
        onlyThoseWhoWereSentGiveBack();
        fineOfTheMonthThatEnds();
        bonuses();
        bonusOfNothing();
        owing();
        dunnedAreNotSent();
        neverDunnedOrEnded();
        debtIsBelowItsContrary();
        orderOfTheMonthsEnd();
        lastMonth();
        clearing();
        books();
        counts();
        Check.finish();
    }

    private static void choices() {
        BookClub club = new BookClub();
        Check.due("choice(-1, 0)", club.choice(-1, 0), -1);
        Check.due("choice(5001, 0)", club.choice(5001, 0), -1);
        Check.due("choice(0, -1)", club.choice(0, -1), -1);
        Check.due("choice(0, 1001)", club.choice(0, 1001), -1);
        Check.due("nothing printed", club.book(0, 1), 0);
        Check.due("choice(5000, 1000)", club.choice(5000, 1000), 1000);
        Check.due("choice(7, 0)", club.choice(7, 0), 1000);
        Check.due("price told again", club.book(0, 0), 7);
        for (int i = 2; i <= 4; i++) {
            Check.due("a thousand more", club.choice(i, 1000), 1000 * i);
        }
        club.clear(0, 1, 4000);
        Check.due("stock counts what is left", club.choice(4, 999), 999);
        Check.due("more than 5000 printed", club.choice(9, 2), -1);
        Check.due("price after a refused call", club.book(0, 0), 4);
        Check.due("5000 printed", club.choice(9, 1), 1000);
        Check.due("printed", club.book(0, 1), 5000);
        Check.due("one more", club.choice(9, 1), -1);
        Check.due("none more", club.choice(8, 0), 1000);
        club.close();
        Check.due("the next month begins without", club.choice(1, 3), 3);
    }

    private static void refusals() {
        BookClub club = new BookClub();
        club.join(0, 0);
        club.join(0, 0);
        Check.due("refuse(-1, 1)", club.refuse(-1, 1), -1);
        Check.due("refuse(2, 1)", club.refuse(2, 1), -1);
        Check.due("refuse(0, 0)", club.refuse(0, 0), -1);
        Check.due("refuse(0, 31)", club.refuse(0, 31), -1);
        Check.due("no refusal as yet", Check.member(club, 0, 6), 0);
        Check.due("refuse(0, 30)", club.refuse(0, 30), 32);
        Check.due("it did", club.refuse(0, 1), -1);
        Check.due("the first stands", Check.member(club, 0, 6), 32);
        club.leave(1);
        Check.due("an ended one", club.refuse(1, 1), -1);
        club.close();
        Check.due("again in the next month", club.refuse(0, 1), 3);
    }

    private static void inTimeOrNot() {
        BookClub club = Check.clubWith("limit=5");
        club.join(0, 0);
        club.join(0, 0);
        club.join(0, 0);
        club.choice(1, 9);
        Check.due("comes at the limit", club.refuse(0, 3), 5);
        Check.due("comes behind it", club.refuse(1, 4), 6);
        Check.due("sent", club.close(), 2);
        Check.due("in time", Check.member(club, 0, 7), 0);
        Check.due("in time is not short", Check.member(club, 0, 8), 0);
        Check.due("late", Check.member(club, 1, 7), 1);
        Check.due("without a refusal", Check.member(club, 2, 7), 1);
    }

    private static void refusalsOnTheFirstDay() {
        BookClub club = Check.clubWith("limit=1,limit=0@1");
        club.join(0, 0);
        club.lag(0, 0);
        club.choice(1, 1);
        Check.due("comes on day 1", club.refuse(0, 1), 1);
        Check.due("it did", club.refuse(0, 2), -1);
        Check.due("in time on day 1", club.close(), 0);
        club.choice(1, 1);
        club.refuse(0, 1);
        Check.due("late on day 1", club.close(), 1);
        club.close();
        Check.due("taken back", club.book(1, 4), 1);
    }

    private static void limitIsThatOfTheMonthsEnd() {
        BookClub club = new BookClub();
        club.join(0, 0);
        club.choice(10, 1);
        club.refuse(0, 5);
        Check.tell(club, "limit=6,limit=20@1");
        Check.due("late by the limit told since", club.close(), 1);
        Check.tell(club, "limit=30");
        club.close();
        Check.due("taken back though the limit changed since", club.book(0, 4), 1);
    }

    private static void sending() {
        BookClub club = new BookClub();
        Check.due("nobody", club.close(), 0);
        club.join(0, 0);
        club.join(0, 0);
        club.choice(12, 5);
        Check.due("two sent", club.close(), 2);
        Check.due("stock", club.book(1, 2), 3);
        Check.due("sent", club.book(1, 3), 2);
        Check.entryDue(club, 0, 0, 1, 2, -12);
        Check.entryDue(club, 1, 1, 1, 2, -12);
        Check.due("bought", Check.member(club, 0, 3), 1);
        club.choice(0, 5);
        Check.due("at no price", club.close(), 2);
        Check.due("no entry at no price", club.count(5), 2);
        Check.due("bought at no price", Check.member(club, 1, 3), 2);
        Check.due("price of the next", club.book(3, 0), 0);
        club.join(0, 0);
        Check.due("a new one was not sent it", Check.member(club, 2, 7), 0);
    }

    private static void shortOfStock() {
        BookClub club = new BookClub();
        for (int i = 0; i < 4; i++) {
            club.join(0, 0);
        }
        club.choice(5, 2);
        club.refuse(0, 1);
        Check.due("sent", club.close(), 2);
        Check.due("refused", Check.member(club, 0, 7) + Check.member(club, 0, 8), 0);
        Check.due("first in order", Check.member(club, 1, 7), 1);
        Check.due("second in order", Check.member(club, 2, 7), 1);
        Check.due("third is not sent", Check.member(club, 3, 7), 0);
        Check.due("third is short", Check.member(club, 3, 8), 1);
        Check.due("second is not short", Check.member(club, 2, 8), 0);
        Check.due("short in all", club.book(0, 7), 1);
        Check.due("nothing bought", Check.member(club, 3, 3), 0);
        Check.due("without a choice", club.close(), 0);
        Check.due("all are short", club.book(1, 7), 4);
        Check.due("of the latest alone", Check.member(club, 1, 7), 0);
        club.leave(3);
        club.close();
        Check.due("an ended one is not short", Check.member(club, 3, 8), 0);
    }

    private static void takingBack() {
        BookClub club = Check.clubWith("limit=3,late=15");
        club.join(0, 0);
        club.join(0, 0);
        club.choice(99, 2);
        club.refuse(0, 2);
        club.refuse(1, 1);
        Check.due("only the late one", club.close(), 1);
        Check.due("nothing back as yet", club.book(0, 4), 0);
        club.close();
        Check.due("taken back", club.book(0, 4), 1);
        Check.due("in stock again", club.book(0, 2), 2);
        Check.due("sent all the same", club.book(0, 3), 1);
        Check.due("entries", club.count(5), 3);
        Check.entryDue(club, 0, 0, 0, 2, -99);
        Check.entryDue(club, 1, 0, 1, 3, 99);
        Check.entryDue(club, 2, 0, 1, 4, -14);
        Check.due("bought stays", Check.member(club, 0, 3), 1);
        club.close();
        Check.due("once alone", club.count(5), 3);
    }

    private static void takingBackFromEndedOnes() {
        BookClub club = Check.clubWith("limit=0,late=1");
        club.join(0, 0);
        club.choice(50, 1);
        club.refuse(0, 1);
        club.close();
        club.leave(0);
        club.close();
        Check.due("taken back", club.book(0, 4), 1);
        Check.due("entries: a fine below one is none", club.count(5), 2);
        Check.due("balance", Check.member(club, 0, 5), 0);
    }

    private static void takingBackAtNoPrice() {
        BookClub club = Check.clubWith("limit=0,late=50");
        club.join(0, 0);
        club.choice(0, 1);
        club.refuse(0, 1);
        Check.due("sent", club.close(), 1);
        club.close();
        Check.due("taken back", club.book(0, 4), 1);
        Check.due("there was no VOLUME to take back", club.count(5), 0);
    }

    private static void takingBackOnceAlone() {
        BookClub club = Check.clubWith("limit=0,late=10,dun=2@1");
        club.join(0, 0);
        club.choice(50, 1);
        club.refuse(0, 1);
        club.close();
        for (int month = 1; month <= 3; month++) {
            club.choice(20, 0);
            club.close();
            Check.due("of month 0, behind month " + month, club.book(0, 4), 1);
            Check.due("of month " + month, club.book(month, 4), 0);
        }
        Check.due("entries", club.count(5), 3);
    }

    private static void onlyThoseWhoWereSentGiveBack() {
        BookClub club = Check.clubWith("limit=0,late=50");
        club.join(0, 0);
        club.join(0, 0);
        club.join(0, 0);
        club.choice(10, 1);
        club.refuse(1, 1);
        club.refuse(2, 1);
        club.leave(2);
        club.close();
        club.choice(10, 9);
        club.close();
        Check.due("short or ended: nothing to give back", club.book(0, 4), 0);
        Check.due("entries", club.count(5), 3);
    }

    private static void fineOfTheMonthThatEnds() {
        BookClub club = Check.clubWith("limit=0,late=10,late=30@1");
        club.join(0, 0);
        club.choice(100, 1);
        club.refuse(0, 1);
        club.close();
        club.close();
        Check.entryDue(club, 2, 0, 1, 4, -30);
    }

    private static void bonuses() {
        BookClub club = Check.clubWith("bonus=2,part=33,dun=0");
        club.join(0, 0);
        for (int i = 0; i < 4; i++) {
            club.choice(10, 1);
            club.close();
        }
        Check.due("entries", club.count(5), 6);
        Check.entryDue(club, 0, 0, 0, 2, -10);
        Check.entryDue(club, 1, 0, 1, 2, -10);
        Check.entryDue(club, 2, 0, 1, 5, 3);
        Check.entryDue(club, 3, 0, 2, 2, -10);
        Check.entryDue(club, 5, 0, 3, 5, 3);
    }

    private static void bonusOfNothing() {
        BookClub club = Check.clubWith("bonus=1,part=9,end=0,dun=0");
        club.join(0, 0);
        club.choice(11, 1);
        club.close();
        Check.due("a bonus below one is none", club.count(5), 1);
        club.choice(12, 1);
        club.close();
        Check.due("a bonus of one is one", club.count(5), 3);
        Check.tell(club, "part=10000");
        club.choice(5000, 1);
        club.close();
        Check.due("the greatest bonus", Check.entry(club, 4, 3), 500000);
        BookClub without = new BookClub();
        without.join(0, 0);
        without.choice(100, 1);
        without.close();
        Check.due("no bonus at first", without.count(5), 1);
    }

    private static void owing() {
        BookClub club = Check.clubWith("dun=2,end=4");
        club.join(0, 0);
        club.choice(10, 1);
        int[] states = {0, 1, 1, 2, 2};
        int[] months = {1, 2, 3, 4, 4};
        for (int i = 0; i < states.length; i++) {
            club.close();
            Check.due("state behind month " + i, Check.member(club, 0, 2), states[i]);
            Check.due("months owing behind month " + i, Check.member(club, 0, 4), months[i]);
        }

        BookClub struck = Check.clubWith("dun=1");
        struck.join(0, 0);
        struck.choice(10, 1);
        struck.close();
        struck.strike(0);
        Check.due("dunned until the month ends", Check.member(struck, 0, 2), 1);
        Check.due("owing until the month ends", Check.member(struck, 0, 4), 1);
        struck.close();
        Check.due("in again", Check.member(struck, 0, 2), 0);
        Check.due("owing no more", Check.member(struck, 0, 4), 0);

        BookClub both = Check.clubWith("dun=1,end=1");
        both.join(0, 0);
        both.choice(10, 1);
        both.close();
        Check.due("end goes ahead of dun", Check.member(both, 0, 2), 2);
    }

    private static void dunnedAreNotSent() {
        BookClub club = Check.clubWith("dun=1,end=0,dun=5@1");
        club.join(0, 0);
        club.choice(10, 1);
        club.close();
        club.choice(10, 1);
        Check.due("refuse when dunned", club.refuse(0, 1), 3);
        Check.due("sent to a dunned one", club.close(), 0);
        Check.due("a dunned one is not short", club.book(1, 7), 0);
        Check.due("not short", Check.member(club, 0, 8), 0);
        Check.due("dunned while it owes, though dun is greater now", Check.member(club, 0, 2), 1);
        Check.due("dunned", club.count(3), 1);
    }

    private static void neverDunnedOrEnded() {
        BookClub club = Check.clubWith("dun=0,end=0");
        club.join(0, 0);
        club.choice(10, 1);
        for (int i = 0; i < 12; i++) {
            club.close();
        }
        Check.due("months owing", Check.member(club, 0, 4), 12);
        Check.due("state", Check.member(club, 0, 2), 0);

        BookClub first = new BookClub();
        first.join(0, 0);
        first.choice(10, 1);
        int[] states = {0, 0, 1, 1, 1, 2};
        for (int i = 0; i < states.length; i++) {
            first.close();
            Check.due("state without rules behind month " + i, Check.member(first, 0, 2), states[i]);
        }
    }

    private static void debtIsBelowItsContrary() {
        BookClub club = Check.clubWith("debt=10,debt=9@1");
        club.join(0, 0);
        club.choice(10, 1);
        club.close();
        Check.due("at debt's contrary", Check.member(club, 0, 4), 0);
        club.close();
        Check.due("below the next month's", Check.member(club, 0, 4), 1);
        Check.tell(club, "debt=10@2");
        club.close();
        Check.due("not below it again", Check.member(club, 0, 4), 0);
    }

    private static void orderOfTheMonthsEnd() {
        BookClub club = Check.clubWith("limit=0,late=10,bonus=1,part=50");
        club.join(0, 0);
        club.join(0, 0);
        club.choice(20, 2);
        club.refuse(0, 1);
        club.refuse(1, 1);
        club.close();
        club.choice(40, 2);
        Check.due("sent", club.close(), 2);
        int[][] rows = {{0, 0, 2, -20}, {0, 0, 5, 10}, {1, 0, 2, -20}, {1, 0, 5, 10},
            {0, 1, 3, 20}, {0, 1, 4, -2}, {1, 1, 3, 20}, {1, 1, 4, -2},
            {0, 1, 2, -40}, {0, 1, 5, 20}, {1, 1, 2, -40}, {1, 1, 5, 20}};
        Check.due("entries", club.count(5), rows.length);
        for (int e = 0; e < rows.length; e++) {
            Check.entryDue(club, e, rows[e][0], rows[e][1], rows[e][2], rows[e][3]);
        }
        Check.due("stock of the first", club.book(0, 2), 2);
        Check.due("stock of the second: none of the first's", club.book(1, 2), 0);
    }

    private static void lastMonth() {
        BookClub club = new BookClub();
        club.join(0, 0);
        for (int i = 0; i < 60; i++) {
            Check.due("month", club.count(0), i);
            Check.due("close of month " + i, club.close(), 0);
        }
        Check.due("close of month 60", club.close(), -1);
        Check.due("month 60", club.count(0), 60);
        Check.due("a choice in month 60", club.choice(5, 6), 6);
        Check.due("a refusal in month 60", club.refuse(0, 1), 3);
        Check.due("the book of month 60", club.book(60, 1), 6);
        Check.due("clear in month 60", club.clear(60, 0, 2), 4);
        Check.due("the book of month 61", club.book(61, 1), -1);
        Check.due("close of month 60 again", club.close(), -1);
        Check.due("the refusal stays", Check.member(club, 0, 6), 3);
    }

    private static void clearing() {
        BookClub club = new BookClub();
        club.choice(5, 10);
        Check.due("clear(-1, 0, 0)", club.clear(-1, 0, 0), -1);
        Check.due("clear(1, 0, 0)", club.clear(1, 0, 0), -1);
        Check.due("clear(0, -1, 1)", club.clear(0, -1, 1), -1);
        Check.due("clear(0, 2, 1)", club.clear(0, 2, 1), -1);
        Check.due("clear(0, 0, -1)", club.clear(0, 0, -1), -1);
        Check.due("clear(0, 0, 11)", club.clear(0, 0, 11), -1);
        Check.due("stock after refused calls", club.book(0, 2), 10);
        Check.due("none", club.clear(0, 0, 0), 10);
        Check.due("sold off", club.clear(0, 0, 3), 7);
        Check.due("pulped", club.clear(0, 1, 2), 5);
        club.close();
        Check.due("of a month that was", club.clear(0, 1, 5), 0);
        Check.due("more than is left", club.clear(0, 1, 1), -1);
        Check.due("sold off in all", club.book(0, 5), 3);
        Check.due("pulped in all", club.book(0, 6), 7);
    }

    private static void books() {
        BookClub club = Check.clubWith("limit=0,late=10");
        for (int i = 0; i < 4; i++) {
            club.join(0, 0);
        }
        club.refuse(0, 1);
        club.choice(30, 7);
        club.clear(0, 0, 3);
        club.clear(0, 1, 1);
        club.close();
        club.close();
        int[] due = {30, 7, 1, 3, 1, 3, 1, 1};
        for (int what = 0; what < due.length; what++) {
            Check.due("book(0, " + what + ")", club.book(0, what), due[what]);
        }
        Check.due("book(0, 8)", club.book(0, 8), -1);
        Check.due("book(0, -1)", club.book(0, -1), -1);
        Check.due("book(-1, 0)", club.book(-1, 0), -1);
        Check.due("book(2, 0)", club.book(2, 0), 0);
        Check.due("book(3, 0)", club.book(3, 0), -1);
    }

    private static void counts() {
        BookClub club = Check.clubWith("dun=1,gift=5");
        club.join(0, 0);
        club.join(0, 0);
        club.join(0, 0);
        club.join(0, 0);
        club.leave(3);
        club.choice(5, 2);
        club.feed(0, 0, 0, 0, 0);
        club.close();
        int[] due = {1, 4, 2, 1, 1, 3, 2, 20};
        for (int what = 0; what < due.length; what++) {
            Check.due("count(" + what + ")", club.count(what), due[what]);
        }
        Check.due("count(8)", club.count(8), -1);
        Check.due("count(-1)", club.count(-1), -1);
    }
}
