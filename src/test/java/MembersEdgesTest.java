/** Terms 2 and promises 7 to 12: a test for each sentence on houses and members that names a boundary case. */
public final class MembersEdgesTest {
    private static final long REFUSED = -1000000000L;

    public static void main(String[] args) {
        tenHousesWithALagOfTwo();
        lagsUpToTwenty();
        refusedLags();
        kindsAndHouses();
        refusedJoins();
        fortyMembers();
        noGiftOfZero();
        giftOnceAHouse();
        giftOfOneWhoMovedAway();
        giftOfOneWhoMovedIn();
        giftWhenTheRuleCameLate();
        giftOfTheMonthThatIs();
        moves();
        refusedMoves();
        movesOfEndedOnes();
        paymentsAllowed();
        refusedPayments();
        paymentUpToTheDebt();
        paymentByTheDebtOfTheMonth();
        paymentOfOneIn();
        paymentOfAnEndedOne();
        leavingWithABalanceAboveZero();
        leavingWithoutOne();
        leavingWhenDunned();
        refusedLeaves();
        whatIsToldOfANewMember();
        dayOfNoRefusal();
        sentAndShortOfTheLatest();
        noSuchMember();
        noSuchWhat();
        Check.finish();
    }

    // ---- houses

    private static void tenHousesWithALagOfTwo() {
        Check.sentence("HOUSES 0 .. 9, each with a LAG 0 .. 20 (days; 2 at first)");
        BookClub club = new BookClub();
        for (int house = 0; house <= 9; house++) {
            Check.due("join into house " + house, club.join(0, house), house);
            Check.due("lag of house " + house, club.refuse(house, 1), 3);
        }
    }

    private static void lagsUpToTwenty() {
        Check.sentence("The LAG of a HOUSE becomes v: true");
        BookClub club = new BookClub();
        int[] houses = {0, 9, 0, 9};
        int[] lags = {0, 0, 20, 20};
        for (int i = 0; i < houses.length; i++) {
            Check.due("lag(" + houses[i] + ", " + lags[i] + ")", club.lag(houses[i], lags[i]), true);
            club.join(0, houses[i]);
            Check.due("the lag then", club.refuse(i, 30), 30 + lags[i]);
        }
        club.join(0, 1);
        Check.due("of another house", club.refuse(4, 30), 32);
    }

    private static void refusedLags() {
        Check.sentence("The LAG of a HOUSE becomes v: true. Refused: others");
        BookClub club = new BookClub();
        for (int house : Check.outside(0, 9)) {
            Check.due("lag(" + house + ", 5)", club.lag(house, 5), false);
        }
        for (int v : Check.outside(0, 20)) {
            Check.due("lag(0, " + v + ")", club.lag(0, v), false);
            Check.due("lag(9, " + v + ")", club.lag(9, v), false);
        }
        for (int house = 0; house <= 9; house++) {
            club.join(0, house);
            Check.due("lag of house " + house, club.refuse(house, 1), 3);
        }
    }

    // ---- joining

    private static void kindsAndHouses() {
        Check.sentence("A MEMBER joins: its number");
        BookClub club = new BookClub();
        int[][] pairs = {{0, 0}, {3, 0}, {0, 9}, {3, 9}};
        for (int i = 0; i < pairs.length; i++) {
            Check.due("the number", club.join(pairs[i][0], pairs[i][1]), i);
            Check.due("kind", Check.member(club, i, 0), pairs[i][0]);
            Check.due("house", Check.member(club, i, 1), pairs[i][1]);
        }
    }

    private static void refusedJoins() {
        Check.sentence("A MEMBER joins: its number. Refused: others, 40");
        BookClub club = Check.clubWith("gift=5");
        for (int kind : Check.outside(0, 3)) {
            Check.due("join(" + kind + ", 0)", club.join(kind, 0), -1);
        }
        for (int house : Check.outside(0, 9)) {
            Check.due("join(0, " + house + ")", club.join(0, house), -1);
        }
        Check.due("members", club.count(1), 0);
        Check.due("entries", club.count(5), 0);
        club.join(0, 0);
        Check.due("the house's gift is still to come", Check.member(club, 0, 5), 5);
    }

    private static void fortyMembers() {
        Check.sentence("MEMBERS 0 .. (at most 40)");
        BookClub club = Check.clubWith("gift=5");
        for (int i = 0; i < 40; i++) {
            Check.due("member " + i, club.join(i % 4, i % 9), i);
        }
        Check.due("the forty-first", club.join(0, 9), -1);
        Check.due("members", club.count(1), 40);
        Check.due("no gift to the forty-first", club.count(5), 9);
        Check.due("member 39", Check.member(club, 39, 0), 3);
        Check.due("member 40", Check.member(club, 40, 0), Check.THROWS);
        club.leave(0);
        Check.due("when one has left", club.join(0, 9), -1);
        Check.due("members", club.count(1), 40);
        Check.due("all forty are sent it but the one that left", Check.send(club, 1, 40), 39);
    }

    // ---- gifts

    private static void noGiftOfZero() {
        Check.sentence("an ENTRY of gift (in force in the MONTH that is; if it is above 0)");
        BookClub without = Check.clubWith("gift=0", 1);
        Check.due("entries at gift 0", without.count(5), 0);
        BookClub one = Check.clubWith("gift=1", 1);
        Check.due("entries at gift 1", one.count(5), 1);
        Check.entryDue(one, 0, 0, 0, 0, 1);
        BookClub greatest = Check.clubWith("gift=10000", 1);
        Check.entryDue(greatest, 0, 0, 0, 0, 10000);
    }

    private static void giftOnceAHouse() {
        Check.sentence("if none that joined into that HOUSE had one");
        BookClub club = Check.clubWith("gift=5");
        for (int i = 0; i < 20; i++) {
            club.join(0, i % 10);
            Check.due("balance of " + i, Check.member(club, i, 5), i < 10 ? 5 : 0);
        }
        club.leave(0);
        club.join(0, 0);
        Check.due("when that one left", Check.member(club, 20, 5), 0);
        club.strike(1);
        club.join(0, 1);
        Check.due("when its gift was struck", Check.member(club, 21, 5), 0);
    }

    private static void giftOfOneWhoMovedAway() {
        Check.sentence("if none that joined into that HOUSE had one (wherever it is now)");
        BookClub club = Check.clubWith("gift=5");
        club.join(0, 4);
        club.move(0, 5);
        club.join(0, 4);
        Check.due("into the house that it left", Check.member(club, 1, 5), 0);
    }

    private static void giftOfOneWhoMovedIn() {
        Check.sentence("if none that joined into that HOUSE had one (wherever it is now)");
        BookClub club = Check.clubWith("gift=5");
        club.join(0, 4);
        club.move(0, 5);
        club.join(0, 5);
        Check.due("into the house to which it moved", Check.member(club, 1, 5), 5);
    }

    private static void giftWhenTheRuleCameLate() {
        Check.sentence("if none that joined into that HOUSE had one");
        BookClub club = new BookClub();
        club.join(0, 4);
        Check.tell(club, "gift=5");
        club.join(0, 4);
        Check.due("the second is the first with a gift", Check.member(club, 1, 5), 5);
        club.join(0, 4);
        Check.due("not the third", Check.member(club, 2, 5), 0);
    }

    private static void giftOfTheMonthThatIs() {
        Check.sentence("gift (in force in the MONTH that is");
        BookClub club = Check.clubWith("gift=3@1,gift=4@2");
        club.join(0, 0);
        Check.due("in month 0", Check.member(club, 0, 5), 0);
        club.close();
        club.join(0, 0);
        Check.entryDue(club, 0, 1, 1, 0, 3);
        club.close();
        club.join(0, 1);
        Check.entryDue(club, 1, 2, 2, 0, 4);
    }

    // ---- moving

    private static void moves() {
        Check.sentence("A MEMBER has another HOUSE: true");
        BookClub club = Check.clubWith("dun=1", 1);
        club.lag(9, 7);
        Check.due("move(0, 9)", club.move(0, 9), true);
        Check.due("house", Check.member(club, 0, 1), 9);
        Check.due("the new house's lag", club.refuse(0, 1), 8);
        Check.due("move(0, 0)", club.move(0, 0), true);
        Check.due("house", Check.member(club, 0, 1), 0);
        Check.due("the day of the refusal", Check.member(club, 0, 6), 8);
        club.close();
        Check.send(club, 5, 1);
        Check.due("dunned", Check.member(club, 0, 2), 1);
        Check.due("a dunned one moves", club.move(0, 3), true);
        Check.due("house", Check.member(club, 0, 1), 3);
    }

    private static void refusedMoves() {
        Check.sentence("A MEMBER has another HOUSE: true. Refused: others, ENDED");
        BookClub club = new BookClub();
        Check.due("without members", club.move(0, 0), false);
        club.join(0, 4);
        for (int house : Check.outside(0, 9)) {
            Check.due("move(0, " + house + ")", club.move(0, house), false);
        }
        for (int member : Check.outside(0, 0)) {
            Check.due("move(" + member + ", 1)", club.move(member, 1), false);
        }
        Check.due("house", Check.member(club, 0, 1), 4);
    }

    private static void movesOfEndedOnes() {
        Check.sentence("A MEMBER has another HOUSE: true. Refused: others, ENDED");
        BookClub club = Check.clubWith("end=1", 2);
        club.leave(0);
        Check.send(club, 5, 1);
        for (int member = 0; member <= 1; member++) {
            Check.due("ended", Check.member(club, member, 2), 2);
            Check.due("move(" + member + ", 1)", club.move(member, 1), false);
            Check.due("house", Check.member(club, member, 1), 0);
        }
    }

    // ---- paying

    private static void paymentsAllowed() {
        Check.sentence("v (1 .. 100000) is PAID: BALANCE then");
        BookClub club = Check.clubOf(1);
        Check.due("pay(0, 1)", club.pay(0, 1), 1);
        Check.due("pay(0, 100000)", club.pay(0, 100000), 100001);
        Check.entryDue(club, 0, 0, 0, 1, 1);
        Check.entryDue(club, 1, 0, 0, 1, 100000);
        for (int i = 0; i < 400; i++) {
            club.pay(0, 100000);
        }
        Check.due("a balance of many", Check.member(club, 0, 5), 40100001L);
    }

    private static void refusedPayments() {
        Check.sentence("Refused (-1000000000): others");
        BookClub club = new BookClub();
        Check.due("without members", club.pay(0, 1), REFUSED);
        club.join(0, 0);
        for (int v : Check.outside(1, 100000)) {
            Check.due("pay(0, " + v + ")", club.pay(0, v), REFUSED);
        }
        for (int member : Check.outside(0, 0)) {
            Check.due("pay(" + member + ", 1)", club.pay(member, 1), REFUSED);
        }
        Check.due("entries", club.count(5), 0);
        Check.due("balance", Check.member(club, 0, 5), 0);
    }

    private static void paymentUpToTheDebt() {
        Check.sentence("if BALANCE is not below debt's contrary then, MONTHS OWING is 0 and DUNNED is IN");
        BookClub club = Check.clubWith("debt=5,dun=1,end=0", 1);
        Check.send(club, 100, 1);
        Check.due("one below it", club.pay(0, 94), -6);
        Check.due("dunned", Check.member(club, 0, 2), 1);
        Check.due("owing", Check.member(club, 0, 4), 1);
        Check.due("at it", club.pay(0, 1), -5);
        Check.due("in", Check.member(club, 0, 2), 0);
        Check.due("owing no more", Check.member(club, 0, 4), 0);
    }

    private static void paymentByTheDebtOfTheMonth() {
        Check.sentence("if BALANCE is not below debt's contrary then, MONTHS OWING is 0 and DUNNED is IN");
        BookClub club = Check.clubWith("dun=1,debt=99@1,debt=0@2", 1);
        Check.send(club, 100, 1);
        Check.due("dunned", Check.member(club, 0, 2), 1);
        Check.due("paid in month 1", club.pay(0, 1), -99);
        Check.due("in by that month's debt", Check.member(club, 0, 2), 0);
        club.close();
        club.close();
        Check.due("dunned by the next month's", Check.member(club, 0, 2), 1);
        Check.due("paid in month 3", club.pay(0, 98), -1);
        Check.due("dunned still", Check.member(club, 0, 2), 1);
    }

    private static void paymentOfOneIn() {
        Check.sentence("if BALANCE is not below debt's contrary then, MONTHS OWING is 0 and DUNNED is IN");
        BookClub club = Check.clubOf(1);
        Check.send(club, 10, 1);
        Check.due("in", Check.member(club, 0, 2), 0);
        Check.due("owing", Check.member(club, 0, 4), 1);
        Check.due("too little", club.pay(0, 9), -1);
        Check.due("owing still", Check.member(club, 0, 4), 1);
        Check.due("all of it", club.pay(0, 1), 0);
        Check.due("owing no more", Check.member(club, 0, 4), 0);
        Check.due("in", Check.member(club, 0, 2), 0);
    }

    private static void paymentOfAnEndedOne() {
        Check.sentence("if BALANCE is not below debt's contrary then, MONTHS OWING is 0 and DUNNED is IN");
        BookClub club = Check.clubWith("end=1", 1);
        Check.send(club, 100, 1);
        Check.due("ended", Check.member(club, 0, 2), 2);
        Check.due("an ended one pays", club.pay(0, 100), 0);
        Check.due("owing no more", Check.member(club, 0, 4), 0);
        Check.due("ended for all that", Check.member(club, 0, 2), 2);
    }

    // ---- leaving

    private static void leavingWithABalanceAboveZero() {
        Check.sentence("a BALANCE above 0 is PAID OUT (an ENTRY)");
        BookClub club = Check.clubWith("gift=1", 1);
        Check.due("leave with 1", club.leave(0), 1);
        Check.due("ended", Check.member(club, 0, 2), 2);
        Check.entryDue(club, 1, 0, 0, 6, -1);
        Check.due("balance", Check.member(club, 0, 5), 0);
    }

    private static void leavingWithoutOne() {
        Check.sentence("a BALANCE above 0 is PAID OUT (an ENTRY)");
        BookClub club = Check.clubOf(2);
        Check.due("leave with 0", club.leave(0), 0);
        Check.due("ended", Check.member(club, 0, 2), 2);
        Check.due("entries", club.count(5), 0);
        Check.send(club, 1, 1);
        Check.due("leave with -1", club.leave(1), 0);
        Check.due("ended", Check.member(club, 1, 2), 2);
        Check.due("entries", club.count(5), 1);
        Check.due("what is owed stays", Check.member(club, 1, 5), -1);
    }

    private static void leavingWhenDunned() {
        Check.sentence("A MEMBER that leaves is ENDED");
        BookClub club = Check.clubWith("dun=1", 1);
        Check.send(club, 10, 1);
        Check.due("dunned", club.count(3), 1);
        Check.due("leave", club.leave(0), 0);
        Check.due("dunned no more", club.count(3), 0);
        Check.due("ended", club.count(4), 1);
        club.close();
        Check.due("months owing of an ended one", Check.member(club, 0, 4), 1);
    }

    private static void refusedLeaves() {
        Check.sentence("A MEMBER leaves: what is PAID OUT. Refused: no such MEMBER, ENDED");
        BookClub club = new BookClub();
        Check.due("without members", club.leave(0), -1);
        Check.tell(club, "end=1");
        club.join(0, 0);
        club.join(0, 0);
        for (int member : Check.outside(0, 1)) {
            Check.due("leave(" + member + ")", club.leave(member), -1);
        }
        Check.due("ended", club.count(4), 0);
        club.leave(0);
        Check.due("one that left", club.leave(0), -1);
        Check.send(club, 10, 1);
        club.pay(1, 30);
        Check.due("one that was ended, with a balance above 0", club.leave(1), -1);
        Check.due("its balance stays", Check.member(club, 1, 5), 20);
        Check.due("entries", club.count(5), 2);
    }

    // ---- member

    private static void whatIsToldOfANewMember() {
        Check.sentence("Of a MEMBER, what 0: KIND, 1: HOUSE, 2: STATE, 3: BOUGHT, 4: MONTHS OWING, 5: BALANCE");
        BookClub club = new BookClub();
        club.join(2, 7);
        int[] due = {2, 7, 0, 0, 0, 0, 0, 0, 0};
        for (int what = 0; what < due.length; what++) {
            Check.due("member(0, " + what + ")", Check.member(club, 0, what), due[what]);
        }
    }

    private static void dayOfNoRefusal() {
        Check.sentence("6: the DAY on which its REFUSAL of this MONTH comes (0 without)");
        BookClub club = Check.clubOf(2);
        Check.due("without", Check.member(club, 0, 6), 0);
        club.refuse(0, 30);
        Check.due("with", Check.member(club, 0, 6), 32);
        Check.due("another's", Check.member(club, 1, 6), 0);
        club.refuse(0, 31);
        Check.due("behind a refused call", Check.member(club, 0, 6), 32);
        club.close();
        Check.due("in the next month", Check.member(club, 0, 6), 0);
    }

    private static void sentAndShortOfTheLatest() {
        Check.sentence("7: whether it was SENT the latest CHOICE (1, 0), 8: whether it was SHORT of it");
        BookClub club = Check.clubOf(2);
        sentAndShort(club, "before any", 0, 0, 0, 0);
        Check.send(club, 0, 1);
        sentAndShort(club, "one of two", 1, 0, 0, 1);
        club.choice(0, 9);
        club.join(0, 0);
        sentAndShort(club, "while the next is told", 1, 0, 0, 1);
        Check.due("one that joined since was not sent it", Check.member(club, 2, 7), 0);
        Check.due("nor was it short", Check.member(club, 2, 8), 0);
        club.refuse(0, 1);
        club.close();
        sentAndShort(club, "one refused", 0, 0, 1, 0);
        club.leave(1);
        sentAndShort(club, "one left behind it", 0, 0, 1, 0);
        club.close();
        sentAndShort(club, "without stock, one has left", 0, 1, 0, 0);
    }

    private static void sentAndShort(BookClub club, String when, int sent0, int short0, int sent1, int short1) {
        Check.due(when + ": 0 sent", Check.member(club, 0, 7), sent0);
        Check.due(when + ": 0 short", Check.member(club, 0, 8), short0);
        Check.due(when + ": 1 sent", Check.member(club, 1, 7), sent1);
        Check.due(when + ": 1 short", Check.member(club, 1, 8), short1);
    }

    private static void noSuchMember() {
        Check.sentence("NoSuchElementException: none such, another what");
        BookClub club = new BookClub();
        Check.due("without members", Check.member(club, 0, 0), Check.THROWS);
        club.join(0, 0);
        club.join(0, 0);
        for (int member : Check.outside(0, 1)) {
            for (int what = 0; what <= 8; what++) {
                Check.due("member(" + member + ", " + what + ")", Check.member(club, member, what), Check.THROWS);
            }
        }
    }

    private static void noSuchWhat() {
        Check.sentence("NoSuchElementException: none such, another what");
        BookClub club = Check.clubOf(1);
        for (int what : Check.outside(0, 8)) {
            Check.due("member(0, " + what + ")", Check.member(club, 0, what), Check.THROWS);
        }
    }
}
