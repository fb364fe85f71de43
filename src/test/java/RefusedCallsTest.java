/**
 * Terms 3: "Refused calls answer NONE, or false, and change nothing."
 * Each refused call is made on one of two like clubs; both must then tell the same, and answer the same calls alike.
 */
public final class RefusedCallsTest {
    private static final long NO = 0;
    private static final long PAY_REFUSED = -1000000000L;
    private static final int LEAST = Integer.MIN_VALUE;
    private static final int GREATEST = Integer.MAX_VALUE;

    private interface Call {
        long on(BookClub club);
    }

    public static void main(String[] args) {
        Check.sentence("Refused calls answer NONE, or false, and change nothing");
        texts();
        houses();
        payments();
        membersAsked();
        choices();
        refusals();
        stock();
        entries();
        chances();
        judges();
        closing();
        fullTape();
        Check.finish();
    }

    /** Month 1 with one in that refused, one dunned, one ended; struck entries, stock, marks, kin, a tape. */
    private static BookClub club() {
        BookClub club = Check.clubWith("limit=4,late=10,gift=5,dun=1");
        club.join(0, 0);
        club.join(1, 1);
        club.join(2, 0);
        club.refuse(0, 3);
        Check.send(club, 50, 4);
        club.pay(0, 100);
        club.leave(2);
        club.strike(0);
        club.choice(40, 2);
        club.refuse(0, 1);
        club.chance(1, 20);
        club.mark(0, 0, 5);
        club.mark(1, 0, 7);
        club.kin(1, 0, true);
        club.mark(8, 19, 3);
        Check.tape(club, "debt=7,late=9");
        return club;
    }

    /** What is told at once, and what calls that ask for lags, gifts, the tape and stock bring out. */
    private static String told(BookClub club) {
        StringBuilder told = new StringBuilder(Snapshot.of(club));
        told.append(" rules ").append(club.rules());
        told.append(" joins ").append(club.join(0, 9)).append(' ').append(club.join(0, 0));
        told.append(" days ").append(club.refuse(1, 1)).append(' ').append(club.refuse(3, 1));
        told.append(' ').append(club.refuse(4, 1));
        told.append(" stock ").append(club.choice(30, 1));
        told.append(" sent ").append(club.close());
        told.append(" sent ").append(Check.send(club, 9, 2));
        club.kin(1, 0, false);
        return told.append(Snapshot.of(club)).toString();
    }

    private static void refused(String what, long answer, Call call) {
        BookClub asked = club();
        Check.due(what, call.on(asked), answer);
        Check.due("the club behind " + what, told(asked), told(club()));
    }

    private static long number(boolean answer) {
        return answer ? 1 : 0;
    }

    private static void texts() {
        refused("end(14)", NO, c -> number(c.end(14)));
        refused("end(-1)", NO, c -> number(c.end(-1)));
        refused("end(least)", NO, c -> number(c.end(LEAST)));
        refused("end(greatest)", NO, c -> number(c.end(GREATEST)));
        refused("fault(2)", -1, c -> c.fault(2));
        refused("fault(-1)", -1, c -> c.fault(-1));
        refused("rule(8, 0)", -1, c -> c.rule(8, 0));
        refused("rule(0, 61)", -1, c -> c.rule(0, 61));
        refused("rule(least, least)", -1, c -> c.rule(LEAST, LEAST));
        refused("rule(greatest, greatest)", -1, c -> c.rule(GREATEST, GREATEST));
    }

    private static void houses() {
        refused("lag(-1, 5)", NO, c -> number(c.lag(-1, 5)));
        refused("lag(10, 5)", NO, c -> number(c.lag(10, 5)));
        refused("lag(0, 21)", NO, c -> number(c.lag(0, 21)));
        refused("lag(9, -1)", NO, c -> number(c.lag(9, -1)));
        refused("lag(least, least)", NO, c -> number(c.lag(LEAST, LEAST)));
        refused("lag(9, greatest)", NO, c -> number(c.lag(9, GREATEST)));
        refused("join(4, 9)", -1, c -> c.join(4, 9));
        refused("join(-1, 9)", -1, c -> c.join(-1, 9));
        refused("join(0, 10)", -1, c -> c.join(0, 10));
        refused("join(0, -1)", -1, c -> c.join(0, -1));
        refused("join(greatest, least)", -1, c -> c.join(GREATEST, LEAST));
        refused("move(0, 10)", NO, c -> number(c.move(0, 10)));
        refused("move(0, -1)", NO, c -> number(c.move(0, -1)));
        refused("move(3, 1)", NO, c -> number(c.move(3, 1)));
        refused("move(-1, 1)", NO, c -> number(c.move(-1, 1)));
        refused("move of an ended one", NO, c -> number(c.move(2, 1)));
    }

    private static void payments() {
        refused("pay(0, 0)", PAY_REFUSED, c -> c.pay(0, 0));
        refused("pay(1, 100001)", PAY_REFUSED, c -> c.pay(1, 100001));
        refused("pay(1, least)", PAY_REFUSED, c -> c.pay(1, LEAST));
        refused("pay(1, greatest)", PAY_REFUSED, c -> c.pay(1, GREATEST));
        refused("pay(3, 1)", PAY_REFUSED, c -> c.pay(3, 1));
        refused("pay(-1, 1)", PAY_REFUSED, c -> c.pay(-1, 1));
        refused("leave(3)", -1, c -> c.leave(3));
        refused("leave(-1)", -1, c -> c.leave(-1));
        refused("leave(least)", -1, c -> c.leave(LEAST));
        refused("leave of an ended one", -1, c -> c.leave(2));
    }

    private static void membersAsked() {
        refused("member(3, 0)", Check.THROWS, c -> Check.member(c, 3, 0));
        refused("member(-1, 0)", Check.THROWS, c -> Check.member(c, -1, 0));
        refused("member(0, 9)", Check.THROWS, c -> Check.member(c, 0, 9));
        refused("member(0, -1)", Check.THROWS, c -> Check.member(c, 0, -1));
        refused("count(8)", -1, c -> c.count(8));
        refused("count(-1)", -1, c -> c.count(-1));
    }

    private static void choices() {
        refused("choice(-1, 1)", -1, c -> c.choice(-1, 1));
        refused("choice(5001, 1)", -1, c -> c.choice(5001, 1));
        refused("choice(1, -1)", -1, c -> c.choice(1, -1));
        refused("choice(1, 1001)", -1, c -> c.choice(1, 1001));
        refused("choice(1, least)", -1, c -> c.choice(1, LEAST));
        refused("choice(1, greatest)", -1, c -> c.choice(1, GREATEST));
    }

    private static void refusals() {
        refused("refuse(1, 0)", -1, c -> c.refuse(1, 0));
        refused("refuse(1, 31)", -1, c -> c.refuse(1, 31));
        refused("refuse(1, least)", -1, c -> c.refuse(1, LEAST));
        refused("refuse(1, greatest)", -1, c -> c.refuse(1, GREATEST));
        refused("refuse(3, 1)", -1, c -> c.refuse(3, 1));
        refused("refuse(-1, 1)", -1, c -> c.refuse(-1, 1));
        refused("refuse of an ended one", -1, c -> c.refuse(2, 1));
        refused("refuse a second time", -1, c -> c.refuse(0, 9));
    }

    private static void stock() {
        refused("clear(0, 0, 2)", -1, c -> c.clear(0, 0, 2));
        refused("clear(1, 1, 3)", -1, c -> c.clear(1, 1, 3));
        refused("clear(1, 0, -1)", -1, c -> c.clear(1, 0, -1));
        refused("clear(1, 0, least)", -1, c -> c.clear(1, 0, LEAST));
        refused("clear(1, 2, 1)", -1, c -> c.clear(1, 2, 1));
        refused("clear(1, -1, 1)", -1, c -> c.clear(1, -1, 1));
        refused("clear(2, 0, 0)", -1, c -> c.clear(2, 0, 0));
        refused("clear(-1, 0, 0)", -1, c -> c.clear(-1, 0, 0));
        refused("book(2, 0)", -1, c -> c.book(2, 0));
        refused("book(-1, 0)", -1, c -> c.book(-1, 0));
        refused("book(0, 8)", -1, c -> c.book(0, 8));
    }

    private static void entries() {
        refused("strike of a struck one", NO, c -> number(c.strike(0)));
        refused("strike(-1)", NO, c -> number(c.strike(-1)));
        refused("strike behind the last", NO, c -> number(c.strike(c.count(5))));
        refused("strike(greatest)", NO, c -> number(c.strike(GREATEST)));
        refused("entry behind the last", Check.THROWS, c -> Check.entry(c, c.count(5), 0));
        refused("entry(-1, 0)", Check.THROWS, c -> Check.entry(c, -1, 0));
        refused("entry(0, 5)", Check.THROWS, c -> Check.entry(c, 0, 5));
        refused("balance(3, 0, 0)", Check.THROWS, c -> Check.balance(c, 3, 0, 0));
        refused("balance(0, 61, 0)", Check.THROWS, c -> Check.balance(c, 0, 61, 0));
        refused("balance(0, 0, -1)", Check.THROWS, c -> Check.balance(c, 0, 0, -1));
    }

    private static void chances() {
        refused("chance(4, 1)", NO, c -> number(c.chance(4, 1)));
        refused("chance(-1, 1)", NO, c -> number(c.chance(-1, 1)));
        refused("chance(0, 101)", NO, c -> number(c.chance(0, 101)));
        refused("chance(0, -1)", NO, c -> number(c.chance(0, -1)));
        refused("ways(9, 0, 0)", -1, c -> c.ways(9, 0, 0));
        refused("ways(1, 4, 0)", -1, c -> c.ways(1, 4, 0));
        refused("ways(greatest, greatest, greatest)", -1, c -> c.ways(GREATEST, GREATEST, GREATEST));
        refused("print(0, 0, 1, 1)", -1, c -> c.print(0, 0, 1, 1));
        refused("print(1, 0, 100, 1)", -1, c -> c.print(1, 0, 100, 1));
        refused("print(least, least, least, least)", -1, c -> c.print(LEAST, LEAST, LEAST, LEAST));
    }

    private static void judges() {
        refused("mark(0, 0, 11)", NO, c -> number(c.mark(0, 0, 11)));
        refused("mark(0, 0, -2)", NO, c -> number(c.mark(0, 0, -2)));
        refused("mark(9, 0, 1)", NO, c -> number(c.mark(9, 0, 1)));
        refused("mark(0, 20, 1)", NO, c -> number(c.mark(0, 20, 1)));
        refused("mark(least, greatest, 1)", NO, c -> number(c.mark(LEAST, GREATEST, 1)));
        refused("kin(9, 0, true)", NO, c -> number(c.kin(9, 0, true)));
        refused("kin(-1, 20, true)", NO, c -> number(c.kin(-1, 20, true)));
        refused("kin(0, 20, true)", NO, c -> number(c.kin(0, 20, true)));
        refused("kin(0, -1, true)", NO, c -> number(c.kin(0, -1, true)));
        refused("middle(20)", -1, c -> c.middle(20));
        refused("middle(-1)", -1, c -> c.middle(-1));
    }

    private static BookClub clubOfMonthSixty() {
        BookClub club = Check.clubWith("limit=0", 1);
        Check.closeTimes(club, 59);
        club.refuse(0, 1);
        Check.send(club, 5, 1);
        club.refuse(0, 2);
        club.choice(6, 1);
        return club;
    }

    /** The books of sixty months are too many to ask for: those of the last two tell what a close would change. */
    private static String toldOfMonthSixty(BookClub club) {
        StringBuilder told = new StringBuilder();
        for (int what = 0; what <= 7; what++) {
            told.append(club.count(what)).append(' ').append(club.book(59, what)).append(' ');
            told.append(club.book(60, what)).append(' ').append(club.member(0, what)).append(' ');
        }
        return told.append(club.member(0, 8)).toString();
    }

    private static void closing() {
        BookClub club = clubOfMonthSixty();
        Check.due("close in month 60", club.close(), -1);
        Check.due("the club behind it", toldOfMonthSixty(club), toldOfMonthSixty(clubOfMonthSixty()));
    }

    private static void fullTape() {
        BookClub club = club();
        for (int bytes = 33; bytes <= 193; bytes += 20) {
            Check.due("feed up to " + bytes, club.feed(0x20202020, 0x20202020, 0x20202020, 0x20202020, 0x20202020),
                    bytes);
        }
        String before = Snapshot.of(club);
        Check.due("feed with 193", club.feed(-1, -1, -1, -1, -1), -1);
        Check.due("the club behind it", Snapshot.of(club), before);
        Check.due("the text as it was", club.rules(), 2);
        Check.due("its last rule", club.rule(1, 0), 9);
    }
}
