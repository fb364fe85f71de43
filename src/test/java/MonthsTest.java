/** Promises 13 to 18 in ordinary runs; their boundary cases are in MonthsEdgesTest and MonthEndEdgesTest. */
public final class MonthsTest {
    public static void main(String[] args) {
        sending();
        shortOfStock();
        takingBack();
        bonuses();
        owing();
        orderOfTheMonthsEnd();
        Check.finish();
    }

    private static void sending() {
        BookClub club = new BookClub();
        Check.due("nobody", club.close(), 0);
        club.join(0, 0);
        club.join(0, 0);
        club.choice(12, 5);
        Check.due("two sent", club.close(), 2);
        Check.due("stock", club.book(1, 2), 3);
        Check.due("sent", club.book(1, 3), 2);
        Check.entryDue(club, 0, 0, 1, 2, -12);
        Check.entryDue(club, 1, 1, 1, 2, -12);
        Check.due("bought", Check.member(club, 0, 3), 1);
        club.choice(0, 5);
        Check.due("at no price", club.close(), 2);
        Check.due("no entry at no price", club.count(5), 2);
        Check.due("bought at no price", Check.member(club, 1, 3), 2);
        Check.due("price of the next", club.book(3, 0), 0);
        club.join(0, 0);
        Check.due("a new one was not sent it", Check.member(club, 2, 7), 0);
    }

    private static void shortOfStock() {
        BookClub club = new BookClub();
        for (int i = 0; i < 4; i++) {
            club.join(0, 0);
        }
        club.choice(5, 2);
        club.refuse(0, 1);
        Check.due("sent", club.close(), 2);
        Check.due("refused", Check.member(club, 0, 7) + Check.member(club, 0, 8), 0);
        Check.due("first in order", Check.member(club, 1, 7), 1);
        Check.due("second in order", Check.member(club, 2, 7), 1);
        Check.due("third is not sent", Check.member(club, 3, 7), 0);
        Check.due("third is short", Check.member(club, 3, 8), 1);
        Check.due("second is not short", Check.member(club, 2, 8), 0);
        Check.due("short in all", club.book(0, 7), 1);
        Check.due("nothing bought", Check.member(club, 3, 3), 0);
        Check.due("without a choice", club.close(), 0);
        Check.due("all are short", club.book(1, 7), 4);
        Check.due("of the latest alone", Check.member(club, 1, 7), 0);
        club.leave(3);
        club.close();
        Check.due("an ended one is not short", Check.member(club, 3, 8), 0);
    }

    private static void takingBack() {
        BookClub club = Check.clubWith("limit=3,late=15");
        club.join(0, 0);
        club.join(0, 0);
        club.choice(99, 2);
        club.refuse(0, 2);
        club.refuse(1, 1);
        Check.due("only the late one", club.close(), 1);
        Check.due("nothing back as yet", club.book(0, 4), 0);
        club.close();
        Check.due("taken back", club.book(0, 4), 1);
        Check.due("in stock again", club.book(0, 2), 2);
        Check.due("sent all the same", club.book(0, 3), 1);
        Check.due("entries", club.count(5), 3);
        Check.entryDue(club, 0, 0, 0, 2, -99);
        Check.entryDue(club, 1, 0, 1, 3, 99);
        Check.entryDue(club, 2, 0, 1, 4, -14);
        Check.due("bought stays", Check.member(club, 0, 3), 1);
        club.close();
        Check.due("once alone", club.count(5), 3);
    }

    private static void bonuses() {
        BookClub club = Check.clubWith("bonus=2,part=33,dun=0");
        club.join(0, 0);
        for (int i = 0; i < 4; i++) {
            club.choice(10, 1);
            club.close();
        }
        Check.due("entries", club.count(5), 6);
        Check.entryDue(club, 0, 0, 0, 2, -10);
        Check.entryDue(club, 1, 0, 1, 2, -10);
        Check.entryDue(club, 2, 0, 1, 5, 3);
        Check.entryDue(club, 3, 0, 2, 2, -10);
        Check.entryDue(club, 5, 0, 3, 5, 3);
    }

    private static void owing() {
        BookClub club = Check.clubWith("dun=2,end=4");
        club.join(0, 0);
        club.choice(10, 1);
        int[] states = {0, 1, 1, 2, 2};
        int[] months = {1, 2, 3, 4, 4};
        for (int i = 0; i < states.length; i++) {
            club.close();
            Check.due("state behind month " + i, Check.member(club, 0, 2), states[i]);
            Check.due("months owing behind month " + i, Check.member(club, 0, 4), months[i]);
        }
    }

    private static void orderOfTheMonthsEnd() {
        BookClub club = Check.clubWith("limit=0,late=10,bonus=1,part=50");
        club.join(0, 0);
        club.join(0, 0);
        club.choice(20, 2);
        club.refuse(0, 1);
        club.refuse(1, 1);
        club.close();
        club.choice(40, 2);
        Check.due("sent", club.close(), 2);
        int[][] rows = {{0, 0, 2, -20}, {0, 0, 5, 10}, {1, 0, 2, -20}, {1, 0, 5, 10},
            {0, 1, 3, 20}, {0, 1, 4, -2}, {1, 1, 3, 20}, {1, 1, 4, -2},
            {0, 1, 2, -40}, {0, 1, 5, 20}, {1, 1, 2, -40}, {1, 1, 5, 20}};
        Check.due("entries", club.count(5), rows.length);
        for (int e = 0; e < rows.length; e++) {
            Check.entryDue(club, e, rows[e][0], rows[e][1], rows[e][2], rows[e][3]);
        }
        Check.due("stock of the first", club.book(0, 2), 2);
        Check.due("stock of the second: none of the first's", club.book(1, 2), 0);
    }
}
