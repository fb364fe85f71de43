/** Promises 7 to 12: houses and members. */
public final class MembersTest {
    private static final long REFUSED = -1000000000L;

    public static void main(String[] args) {
        lags();
        joining();
        fortyMembers();
        giftsOnceAHouse();
        giftOfTheMonth();
        giftOfOne();
        moving();
        paying();
        payingWhatIsOwed();
        payingWhenEnded();
        leaving();
        whatIsToldOfAMember();
        Check.finish();
    }

    private static void lags() {
        BookClub club = new BookClub();
        Check.due("join", club.join(0, 9), 0);
        Check.due("join", club.join(0, 0), 1);
        Check.due("join", club.join(0, 0), 2);
        Check.due("lag at first", club.refuse(0, 1), 3);
        Check.due("lag(0, 20)", club.lag(0, 20), true);
        Check.due("lag 20", club.refuse(1, 30), 50);
        Check.due("lag(0, 0)", club.lag(0, 0), true);
        Check.due("lag 0", club.refuse(2, 30), 30);
        Check.due("an earlier refusal keeps its day", Check.member(club, 1, 6), 50);
        Check.due("lag(-1, 0)", club.lag(-1, 0), false);
        Check.due("lag(10, 0)", club.lag(10, 0), false);
        Check.due("lag(0, -1)", club.lag(0, -1), false);
        Check.due("lag(0, 21)", club.lag(0, 21), false);
        club.close();
        Check.due("refused lags changed nothing", club.refuse(1, 1), 1);
    }

    private static void joining() {
        BookClub club = new BookClub();
        Check.due("join(-1, 0)", club.join(-1, 0), -1);
        Check.due("join(4, 0)", club.join(4, 0), -1);
        Check.due("join(0, -1)", club.join(0, -1), -1);
        Check.due("join(0, 10)", club.join(0, 10), -1);
        Check.due("members after refused calls", club.count(1), 0);
        Check.due("join(3, 9)", club.join(3, 9), 0);
        Check.due("join(0, 0)", club.join(0, 0), 1);
        Check.due("kind", Check.member(club, 0, 0), 3);
        Check.due("house", Check.member(club, 0, 1), 9);
        Check.due("state", Check.member(club, 0, 2), 0);
        Check.due("no gift without the rule", club.count(5), 0);
    }

    private static void fortyMembers() {
        BookClub club = new BookClub();
        for (int i = 0; i < 40; i++) {
            Check.due("member " + i, club.join(i % 4, i % 10), i);
        }
        Check.due("the forty-first", club.join(0, 0), -1);
        club.leave(0);
        Check.due("the forty-first when one has left", club.join(0, 0), -1);
        Check.due("members", club.count(1), 40);
        Check.due("those in", club.count(2), 39);
        Check.due("those ended", club.count(4), 1);
    }

    private static void giftsOnceAHouse() {
        BookClub club = Check.clubWith("gift=10");
        club.join(0, 4);
        Check.entryDue(club, 0, 0, 0, 0, 10);
        club.join(0, 4);
        Check.due("one gift a house", club.count(5), 1);
        club.move(0, 5);
        club.join(0, 4);
        Check.due("one gift a house, wherever it is now", club.count(5), 1);
        club.join(0, 5);
        Check.entryDue(club, 1, 3, 0, 0, 10);
        club.leave(0);
        club.join(0, 4);
        Check.due("one gift a house, also when it left", Check.member(club, 4, 5), 0);
        club.strike(1);
        club.join(0, 5);
        Check.due("one gift a house, also a struck one", Check.member(club, 5, 5), 0);
        club.move(5, 6);
        club.join(0, 6);
        Check.due("one that moved in had its gift elsewhere", Check.member(club, 6, 5), 10);
    }

    private static void giftOfTheMonth() {
        BookClub club = Check.clubWith("gift=3@1,gift=4@2");
        club.join(0, 0);
        Check.due("no gift in month 0", Check.member(club, 0, 5), 0);
        club.close();
        club.join(0, 0);
        Check.due("the first with a gift", Check.member(club, 1, 5), 3);
        Check.entryDue(club, 0, 1, 1, 0, 3);
        club.close();
        club.join(0, 0);
        Check.due("not a second", Check.member(club, 2, 5), 0);
        club.join(0, 1);
        Check.due("the next month's gift", Check.member(club, 3, 5), 4);
    }

    private static void giftOfOne() {
        BookClub club = Check.clubWith("gift=1");
        club.join(0, 0);
        Check.entryDue(club, 0, 0, 0, 0, 1);
        Check.due("one is paid out", club.leave(0), 1);
        Check.entryDue(club, 1, 0, 0, 6, -1);
    }

    private static void moving() {
        BookClub club = new BookClub();
        club.join(0, 0);
        Check.due("move(0, 9)", club.move(0, 9), true);
        Check.due("house", Check.member(club, 0, 1), 9);
        Check.due("move to where it is", club.move(0, 9), true);
        Check.due("move(0, 10)", club.move(0, 10), false);
        Check.due("move(0, -1)", club.move(0, -1), false);
        Check.due("move(1, 0)", club.move(1, 0), false);
        Check.due("move(-1, 0)", club.move(-1, 0), false);
        club.lag(9, 7);
        Check.due("the new house's lag", club.refuse(0, 1), 8);
        club.move(0, 3);
        Check.due("a refusal keeps its day", Check.member(club, 0, 6), 8);
        club.leave(0);
        Check.due("move of an ended one", club.move(0, 1), false);
        Check.due("house of the ended one", Check.member(club, 0, 1), 3);
    }

    private static void paying() {
        BookClub club = new BookClub();
        club.join(0, 0);
        Check.due("pay(0, 0)", club.pay(0, 0), REFUSED);
        Check.due("pay(0, -5)", club.pay(0, -5), REFUSED);
        Check.due("pay(0, 100001)", club.pay(0, 100001), REFUSED);
        Check.due("pay(1, 1)", club.pay(1, 1), REFUSED);
        Check.due("pay(-1, 1)", club.pay(-1, 1), REFUSED);
        Check.due("entries after refused calls", club.count(5), 0);
        Check.due("pay(0, 1)", club.pay(0, 1), 1);
        Check.due("pay(0, 100000)", club.pay(0, 100000), 100001);
        Check.entryDue(club, 1, 0, 0, 1, 100000);
    }

    private static void payingWhatIsOwed() {
        BookClub club = Check.clubWith("debt=5,dun=1,end=0");
        club.join(0, 0);
        club.choice(100, 1);
        club.close();
        Check.due("dunned", Check.member(club, 0, 2), 1);
        Check.due("pay too little", club.pay(0, 94), -6);
        Check.due("still dunned", Check.member(club, 0, 2), 1);
        Check.due("still owing", Check.member(club, 0, 4), 1);
        Check.due("pay down to the debt", club.pay(0, 1), -5);
        Check.due("in again", Check.member(club, 0, 2), 0);
        Check.due("owing no more", Check.member(club, 0, 4), 0);
    }

    private static void payingWhenEnded() {
        BookClub club = Check.clubWith("end=1");
        club.join(0, 0);
        club.choice(100, 1);
        club.close();
        Check.due("ended", Check.member(club, 0, 2), 2);
        Check.due("an ended one pays", club.pay(0, 100), 0);
        Check.due("owing no more", Check.member(club, 0, 4), 0);
        Check.due("ended for all that", Check.member(club, 0, 2), 2);
    }

    private static void leaving() {
        BookClub club = Check.clubWith("gift=9");
        club.join(0, 0);
        club.join(0, 0);
        club.join(0, 0);
        Check.due("leave(-1)", club.leave(-1), -1);
        Check.due("leave(3)", club.leave(3), -1);
        Check.due("paid out", club.leave(0), 9);
        Check.entryDue(club, 1, 0, 0, 6, -9);
        Check.due("balance then", Check.member(club, 0, 5), 0);
        Check.due("leave again", club.leave(0), -1);
        Check.due("nothing to pay out", club.leave(1), 0);
        Check.due("no entry for nothing", club.count(5), 2);
        club.choice(4, 1);
        club.close();
        Check.due("sent to the one that is in", Check.member(club, 2, 5), -4);
        Check.due("a debt is not paid out", club.leave(2), 0);
        Check.due("the debt stays", Check.member(club, 2, 5), -4);
        Check.due("ended", club.count(4), 3);
    }

    private static void whatIsToldOfAMember() {
        BookClub club = new BookClub();
        club.join(2, 7);
        int[] first = {2, 7, 0, 0, 0, 0, 0, 0, 0};
        for (int what = 0; what < first.length; what++) {
            Check.due("member(0, " + what + ")", Check.member(club, 0, what), first[what]);
        }
        Check.due("member(0, 9)", Check.member(club, 0, 9), Check.THROWS);
        Check.due("member(0, -1)", Check.member(club, 0, -1), Check.THROWS);
        Check.due("member(1, 0)", Check.member(club, 1, 0), Check.THROWS);
        Check.due("member(-1, 0)", Check.member(club, -1, 0), Check.THROWS);
        club.refuse(0, 6);
        Check.due("the day of its refusal", Check.member(club, 0, 6), 8);
        club.close();
        Check.due("no refusal in the next month", Check.member(club, 0, 6), 0);
    }
}
