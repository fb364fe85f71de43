/** Promises 7 to 12 in ordinary runs; their boundary cases are in MembersEdgesTest. */
public final class MembersTest {
    public static void main(String[] args) {
        giftsOnceAHouse();
        leaving();
        Check.finish();
    }

    private static void giftsOnceAHouse() {
        BookClub club = Check.clubWith("gift=10");
        club.join(0, 4);
        Check.entryDue(club, 0, 0, 0, 0, 10);
        club.join(0, 4);
        Check.due("one gift a house", club.count(5), 1);
        club.move(0, 5);
        club.join(0, 4);
        Check.due("one gift a house, wherever it is now", club.count(5), 1);
        club.join(0, 5);
        Check.entryDue(club, 1, 3, 0, 0, 10);
        club.leave(0);
        club.join(0, 4);
        Check.due("one gift a house, also when it left", Check.member(club, 4, 5), 0);
        club.strike(1);
        club.join(0, 5);
        Check.due("one gift a house, also a struck one", Check.member(club, 5, 5), 0);
        club.move(5, 6);
        club.join(0, 6);
        Check.due("one that moved in had its gift elsewhere", Check.member(club, 6, 5), 10);
    }

    private static void leaving() {
        BookClub club = Check.clubWith("gift=9", 3);
        Check.due("paid out", club.leave(0), 9);
        Check.entryDue(club, 1, 0, 0, 6, -9);
        Check.due("balance then", Check.member(club, 0, 5), 0);
        Check.due("leave again", club.leave(0), -1);
        Check.due("nothing to pay out", club.leave(1), 0);
        Check.due("no entry for nothing", club.count(5), 2);
        Check.send(club, 4, 1);
        Check.due("sent to the one that is in", Check.member(club, 2, 5), -4);
        Check.due("a debt is not paid out", club.leave(2), 0);
        Check.due("the debt stays", Check.member(club, 2, 5), -4);
        Check.due("ended", club.count(4), 3);
    }
}
