/** Terms 2 and promises 13 to 18: a test for each sentence on choices, refusals, stock that names a boundary case. */
public final class MonthsEdgesTest {
    public static void main(String[] args) {
        pricesAndPrints();
        printsAddUp();
        refusedChoices();
        fiveThousandPrinted();
        refusedOnce();
        days();
        lagOfTheHouseThen();
        refusalsOfNoSuchMember();
        refusalsOfEndedOnes();
        refusalsOfDunnedOnes();
        refusalWithoutAChoice();
        closesOfNobody();
        monthSixty();
        tooFewEntriesLeft();
        clearsUpToTheStock();
        clearsOfNoSuchMonth();
        clearsOfAnotherWhat();
        clearsOfMoreThanTheStock();
        clearsOfWhatWasTakenBack();
        booksUpToTheMonthThatIs();
        booksOfAnotherWhat();
        booksAddUp();
        countsAtFirst();
        countsOfAll();
        countsOfAnotherWhat();
        Check.finish();
    }

    // ---- choice

    private static void pricesAndPrints() {
        Check.sentence("The MONTH's PRICE (0 .. 5000) is told, and so many (0 .. 1000) more are PRINTED: its STOCK");
        BookClub club = new BookClub();
        Check.due("choice(0, 0)", club.choice(0, 0), 0);
        Check.due("choice(5000, 1000)", club.choice(5000, 1000), 1000);
        Check.due("price", club.book(0, 0), 5000);
        Check.due("choice(0, 1)", club.choice(0, 1), 1001);
        Check.due("price told again", club.book(0, 0), 0);
        Check.due("printed", club.book(0, 1), 1001);
    }

    private static void printsAddUp() {
        Check.sentence("so many (0 .. 1000) more are PRINTED: its STOCK");
        BookClub club = Check.clubOf(1);
        club.choice(5, 10);
        club.clear(0, 0, 4);
        Check.due("stock of what is left", club.choice(5, 3), 9);
        Check.due("printed in all", club.book(0, 1), 13);
        club.close();
        Check.due("of the next month apart", club.choice(5, 2), 2);
        Check.due("stock of the month ahead", club.book(0, 2), 8);
    }

    private static void refusedChoices() {
        Check.sentence("Refused: others, more than 5000 PRINTED");
        BookClub club = new BookClub();
        club.choice(7, 8);
        for (int price : Check.outside(0, 5000)) {
            Check.due("choice(" + price + ", 1)", club.choice(price, 1), -1);
        }
        for (int print : Check.outside(0, 1000)) {
            Check.due("choice(1, " + print + ")", club.choice(1, print), -1);
        }
        Check.due("price", club.book(0, 0), 7);
        Check.due("printed", club.book(0, 1), 8);
        Check.due("stock", club.book(0, 2), 8);
    }

    private static void fiveThousandPrinted() {
        Check.sentence("Refused: others, more than 5000 PRINTED");
        BookClub club = new BookClub();
        for (int i = 1; i <= 4; i++) {
            club.choice(i, 1000);
        }
        club.clear(0, 1, 4000);
        Check.due("4999", club.choice(4, 999), 999);
        Check.due("5001", club.choice(9, 2), -1);
        Check.due("price behind a refused call", club.book(0, 0), 4);
        Check.due("5000", club.choice(5, 1), 1000);
        Check.due("printed", club.book(0, 1), 5000);
        Check.due("5001 again", club.choice(9, 1), -1);
        Check.due("none more", club.choice(6, 0), 1000);
        Check.due("price", club.book(0, 0), 6);
        club.close();
        Check.due("5000 of the next month are its own", club.choice(1, 1000), 1000);
    }

    // ---- refuse

    private static void refusedOnce() {
        Check.sentence("A MEMBER may REFUSE it once");
        BookClub club = Check.clubOf(2);
        Check.due("once", club.refuse(0, 30), 32);
        Check.due("twice", club.refuse(0, 1), -1);
        Check.due("the first stands", Check.member(club, 0, 6), 32);
        Check.due("another", club.refuse(1, 1), 3);
        club.close();
        Check.due("in the next month", club.refuse(0, 1), 3);
        club.lag(0, 0);
        club.close();
        Check.due("with the least day", club.refuse(0, 1), 1);
        Check.due("and not again", club.refuse(0, 1), -1);
    }

    private static void days() {
        Check.sentence("by a DAY 1 .. 30");
        BookClub club = Check.clubOf(2);
        for (int day : Check.outside(1, 30)) {
            Check.due("refuse(0, " + day + ")", club.refuse(0, day), -1);
            Check.due("no refusal", Check.member(club, 0, 6), 0);
        }
        Check.due("refuse(0, 1)", club.refuse(0, 1), 3);
        Check.due("refuse(1, 30)", club.refuse(1, 30), 32);
    }

    private static void lagOfTheHouseThen() {
        Check.sentence("it comes on that DAY and the LAG of the HOUSE then");
        BookClub club = Check.clubOf(3);
        club.lag(0, 20);
        club.lag(5, 0);
        Check.due("the longest", club.refuse(0, 30), 50);
        club.lag(0, 1);
        Check.due("when the lag has changed", Check.member(club, 0, 6), 50);
        Check.due("of the lag then", club.refuse(1, 30), 31);
        club.move(1, 5);
        Check.due("when it has moved", Check.member(club, 1, 6), 31);
        club.move(2, 5);
        Check.due("of the house then", club.refuse(2, 1), 1);
    }

    private static void refusalsOfNoSuchMember() {
        Check.sentence("Refused: no such MEMBER, ENDED, another DAY, it did");
        BookClub club = new BookClub();
        Check.due("without members", club.refuse(0, 1), -1);
        club.join(0, 0);
        for (int member : Check.outside(0, 0)) {
            Check.due("refuse(" + member + ", 1)", club.refuse(member, 1), -1);
        }
        Check.due("no refusal", Check.member(club, 0, 6), 0);
    }

    private static void refusalsOfEndedOnes() {
        Check.sentence("Refused: no such MEMBER, ENDED, another DAY, it did");
        BookClub club = Check.clubWith("end=1", 2);
        club.leave(0);
        Check.due("one that left", club.refuse(0, 1), -1);
        Check.send(club, 10, 1);
        Check.due("one that was ended", club.refuse(1, 1), -1);
        Check.due("no refusal", Check.member(club, 1, 6), 0);
    }

    private static void refusalsOfDunnedOnes() {
        Check.sentence("Refused: no such MEMBER, ENDED, another DAY, it did");
        BookClub club = Check.clubWith("dun=1", 1);
        Check.send(club, 10, 1);
        Check.due("dunned", Check.member(club, 0, 2), 1);
        Check.due("a dunned one refuses", club.refuse(0, 1), 3);
        club.pay(0, 10);
        Check.due("its refusal holds when it is in again", Check.send(club, 10, 1), 0);
    }

    private static void refusalWithoutAChoice() {
        Check.sentence("A MEMBER REFUSES the MONTH's CHOICE: the DAY on which that comes");
        BookClub club = Check.clubOf(1);
        Check.due("before the choice is told", club.refuse(0, 1), 3);
        Check.due("it holds for the one told behind it", Check.send(club, 10, 1), 0);
    }

    // ---- close

    private static void closesOfNobody() {
        Check.sentence("THE MONTH ENDS: how many volumes were SENT");
        BookClub club = new BookClub();
        Check.due("nobody, no choice", club.close(), 0);
        Check.due("nobody", Check.send(club, 10, 5), 0);
        club.join(0, 0);
        Check.due("one", Check.send(club, 10, 5), 1);
        BookClub full = new BookClub();
        for (int i = 0; i < 40; i++) {
            full.join(0, i % 10);
        }
        Check.due("forty", Check.send(full, 10, 41), 40);
        Check.due("stock then", full.book(0, 2), 1);
    }

    private static void monthSixty() {
        Check.sentence("Refused: MONTH 60; too few ENTRIES left");
        BookClub club = Check.clubOf(1);
        for (int month = 0; month < 60; month++) {
            Check.due("month", club.count(0), month);
            Check.due("close of month " + month, club.close(), 0);
        }
        Check.due("month", club.count(0), 60);
        Check.due("a choice in month 60", club.choice(5, 6), 6);
        Check.due("a refusal in month 60", club.refuse(0, 30), 32);
        Check.due("close of month 60", club.close(), -1);
        Check.due("month still", club.count(0), 60);
        Check.due("nothing was sent", club.book(60, 3), 0);
        Check.due("the refusal stays", Check.member(club, 0, 6), 32);
        Check.due("clear in month 60", club.clear(60, 0, 2), 4);
        Check.due("there is no month 61", club.book(61, 0), -1);
        Check.due("pay in month 60", club.pay(0, 5), 5);
        Check.entryDue(club, 0, 0, 60, 1, 5);
        Check.due("strike in month 60", club.strike(0), true);
        Check.due("struck in", Check.entry(club, 0, 4), 60);
    }

    private static void tooFewEntriesLeft() {
        Check.sentence("a MONTH with fewer than 200 left does not end");
        BookClub club = Check.clubOf(1);
        for (int i = 0; i < 410; i++) {
            club.pay(0, 1);
        }
        Check.due("410 entries", club.close(), 0);
        BookClub full = LedgerEdgesTest.filledUpTo(700);
        int month = full.count(0);
        Check.due("200 left", full.close(), 0);
        Check.due("the next month", full.count(0), month + 1);
        full.choice(1, 3);
        full.refuse(0, 1);
        full.pay(0, 1);
        Check.due("199 left", full.close(), -1);
        Check.due("month still", full.count(0), month + 1);
        Check.due("nothing was sent", full.book(month + 1, 3), 0);
        Check.due("the refusal stays", Check.member(full, 0, 6), 3);
        full.strike(0);
        Check.due("a struck one is an entry all the same", full.close(), -1);
    }

    // ---- clear

    private static void clearsUpToTheStock() {
        Check.sentence("n of the STOCK of a MONTH's CHOICE are sold off (what 0), pulped (1): what is left of it");
        BookClub club = new BookClub();
        Check.due("none of nothing", club.clear(0, 0, 0), 0);
        club.choice(5, 10);
        Check.due("none", club.clear(0, 0, 0), 10);
        Check.due("one sold off", club.clear(0, 0, 1), 9);
        Check.due("two pulped", club.clear(0, 1, 2), 7);
        Check.due("all sold off", club.clear(0, 0, 7), 0);
        Check.due("sold off in all", club.book(0, 5), 8);
        Check.due("pulped in all", club.book(0, 6), 2);
        club.choice(5, 3);
        club.close();
        Check.due("all of a month that was", club.clear(0, 1, 3), 0);
        Check.due("pulped in all", club.book(0, 6), 5);
    }

    private static void clearsOfNoSuchMonth() {
        Check.sentence("Refused: no such MONTH (up to the one that is), others, not so many");
        BookClub club = new BookClub();
        club.choice(5, 10);
        club.close();
        club.choice(5, 20);
        Check.due("the month ahead", club.clear(0, 0, 1), 9);
        Check.due("the month that is", club.clear(1, 0, 1), 19);
        for (int month : Check.outside(0, 1)) {
            Check.due("clear(" + month + ", 0, 0)", club.clear(month, 0, 0), -1);
        }
    }

    private static void clearsOfAnotherWhat() {
        Check.sentence("Refused: no such MONTH (up to the one that is), others, not so many");
        BookClub club = new BookClub();
        club.choice(5, 10);
        for (int what : Check.outside(0, 1)) {
            Check.due("clear(0, " + what + ", 1)", club.clear(0, what, 1), -1);
        }
        Check.due("stock", club.book(0, 2), 10);
        Check.due("sold off", club.book(0, 5), 0);
        Check.due("pulped", club.book(0, 6), 0);
    }

    private static void clearsOfMoreThanTheStock() {
        Check.sentence("Refused: no such MONTH (up to the one that is), others, not so many");
        BookClub club = new BookClub();
        Check.due("one of nothing", club.clear(0, 0, 1), -1);
        club.choice(5, 10);
        for (int what = 0; what <= 1; what++) {
            for (int n : Check.outside(0, 10)) {
                Check.due("clear(0, " + what + ", " + n + ")", club.clear(0, what, n), -1);
            }
        }
        Check.due("stock", club.book(0, 2), 10);
    }

    private static void clearsOfWhatWasTakenBack() {
        Check.sentence("Refused: no such MONTH (up to the one that is), others, not so many");
        BookClub club = Check.clubWith("limit=0", 1);
        club.refuse(0, 1);
        Check.send(club, 5, 1);
        Check.due("what is sent", club.clear(0, 0, 1), -1);
        club.close();
        Check.due("what was taken back", club.clear(0, 0, 1), 0);
        Check.due("no more than that", club.clear(0, 0, 1), -1);
    }

    // ---- book

    private static void booksUpToTheMonthThatIs() {
        Check.sentence("Of a MONTH's CHOICE (up to the one that is)");
        BookClub club = new BookClub();
        club.choice(3, 0);
        club.close();
        club.choice(4, 0);
        Check.due("book(0, 0)", club.book(0, 0), 3);
        Check.due("book(1, 0)", club.book(1, 0), 4);
        for (int month : Check.outside(0, 1)) {
            Check.due("book(" + month + ", 0)", club.book(month, 0), -1);
        }
    }

    private static void booksOfAnotherWhat() {
        Check.sentence("NONE: none such, another what");
        BookClub club = new BookClub();
        for (int what = 0; what <= 7; what++) {
            Check.due("book(0, " + what + ")", club.book(0, what), 0);
        }
        for (int what : Check.outside(0, 7)) {
            Check.due("book(0, " + what + ")", club.book(0, what), -1);
        }
    }

    private static void booksAddUp() {
        Check.sentence("(1 is 2 and 3 and 5 and 6 less 4.)");
        BookClub club = Check.clubWith("limit=0", 4);
        club.refuse(0, 1);
        club.choice(30, 7);
        club.clear(0, 0, 3);
        club.clear(0, 1, 1);
        booksDue(club, 30, 7, 3, 0, 0, 3, 1, 0);
        club.close();
        booksDue(club, 30, 7, 0, 3, 0, 3, 1, 1);
        club.close();
        booksDue(club, 30, 7, 1, 3, 1, 3, 1, 1);
        club.clear(0, 1, 1);
        booksDue(club, 30, 7, 0, 3, 1, 3, 2, 1);
    }

    private static void booksDue(BookClub club, int... due) {
        for (int what = 0; what < due.length; what++) {
            Check.due("book(0, " + what + ")", club.book(0, what), due[what]);
        }
        Check.due("the sum", due[2] + due[3] + due[5] + due[6] - due[4], due[1]);
    }

    // ---- count

    private static void countsAtFirst() {
        Check.sentence("No MEMBERS, RULES, MARKS; MONTH 0");
        BookClub club = new BookClub();
        for (int what = 0; what <= 7; what++) {
            Check.due("count(" + what + ")", club.count(what), 0);
        }
        for (int book = 0; book <= 19; book++) {
            Check.due("middle(" + book + ")", club.middle(book), -1);
        }
    }

    private static void countsOfAll() {
        Check.sentence("What 0: MONTH, 1: MEMBERS, 2: IN, 3: DUNNED, 4: ENDED, 5: ENTRIES, 6: RULES");
        BookClub club = Check.clubWith("dun=1,gift=5", 7);
        club.leave(6);
        Check.send(club, 9, 4);
        Check.tell(club, "end=9,");
        club.feed(0, 0, 0, 0, 0);
        club.strike(0);
        int[] due = {1, 7, 2, 4, 1, 5, 2, 20};
        for (int what = 0; what < due.length; what++) {
            Check.due("count(" + what + ")", club.count(what), due[what]);
        }
    }

    private static void countsOfAnotherWhat() {
        Check.sentence("NONE for another what");
        BookClub club = new BookClub();
        for (int what : Check.outside(0, 7)) {
            Check.due("count(" + what + ")", club.count(what), -1);
        }
    }
}
