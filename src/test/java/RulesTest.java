/** Promises 2 to 6: the tape, texts and their faults, rules in force. */
public final class RulesTest {
    public static void main(String[] args) {
        feedCountsAndRefuses();
        bytesComeHighestFirst();
        endCuts();
        rulesCountAndEmptyTheTape();
        everyNameIsKnown();
        blanksMayStandBetweenTokens();
        badBytes();
        endsWhereItCannotBe();
        lettersThatAreNoName();
        numbersTooLarge();
        firstFaultByPlace();
        moreThanSixtyRules();
        faultyTextsCountNothing();
        faultOfTheLatest();
        rulesInForce();
        ruleRefuses();
        Check.finish();
    }

    private static void feedCountsAndRefuses() {
        BookClub club = new BookClub();
        for (int i = 1; i <= 10; i++) {
            Check.due("feed " + i, club.feed(0, 0, 0, 0, 0), 20 * i);
        }
        Check.due("feed beyond 200", club.feed(0, 0, 0, 0, 0), -1);
        Check.due("tape after a refused feed", club.count(7), 200);
        club.end(181);
        Check.due("feed from 181", club.feed(0, 0, 0, 0, 0), -1);
        Check.due("tape stays at 181", club.count(7), 181);
        club.end(180);
        Check.due("feed from 180", club.feed(0, 0, 0, 0, 0), 200);
    }

    private static void bytesComeHighestFirst() {
        BookClub club = new BookClub();
        // "dun=" "7,en" "d=10" ",par" "t=20"
        club.feed(0x64756E3D, 0x372C656E, 0x643D3130, 0x2C706172, 0x743D3230);
        Check.due("a text of five numbers", club.rules(), 3);
        Check.due("its dun", club.rule(5, 0), 7);
        Check.due("its end", club.rule(6, 0), 10);
        Check.due("its part", club.rule(7, 0), 20);
        club.feed(0x64756E3D, 0x382C64FF, 0x80000000, -1, Integer.MIN_VALUE);
        club.end(6);
        Check.due("a comma at the end", club.rules(), -1);
        club.feed(0x64756E3D, 0x382CFFFF, 0x80000000, -1, Integer.MIN_VALUE);
        Check.due("bytes above 127", club.rules(), -1);
        Check.due("their place", club.fault(1), 6);
    }

    private static void endCuts() {
        BookClub club = new BookClub();
        Check.due("end(0) of nothing", club.end(0), true);
        Check.due("end(1) of nothing", club.end(1), false);
        club.feed(1, 2, 3, 4, 5);
        Check.due("end(-1)", club.end(-1), false);
        Check.due("end(21)", club.end(21), false);
        Check.due("refused ends leave the tape", club.count(7), 20);
        Check.due("end(20)", club.end(20), true);
        Check.due("end(7)", club.end(7), true);
        Check.due("bytes left", club.count(7), 7);
        Check.due("end(8) then", club.end(8), false);
        Check.due("feed behind the cut", club.feed(0, 0, 0, 0, 0), 27);
    }

    private static void rulesCountAndEmptyTheTape() {
        BookClub club = new BookClub();
        Check.due("one rule", Check.tell(club, "late=3"), 1);
        Check.due("tape after it", club.count(7), 0);
        Check.due("three rules", Check.tell(club, "late=3,late=4,gift=1@60"), 3);
        Check.due("rules in all", club.count(6), 4);
        Check.due("a faulty one", Check.tell(club, "late"), -1);
        Check.due("tape after a faulty one", club.count(7), 0);
        Check.due("rules after a faulty one", club.count(6), 4);
    }

    private static void everyNameIsKnown() {
        String[] names = {"limit", "late", "bonus", "gift", "debt", "dun", "end", "part"};
        int[] first = {10, 0, 0, 0, 0, 3, 6, 50};
        BookClub club = new BookClub();
        for (int i = 0; i < names.length; i++) {
            Check.due(names[i] + " at first", club.rule(i, 0), first[i]);
            Check.due(names[i] + " at first, month 60", club.rule(i, 60), first[i]);
            Check.due("telling " + names[i], Check.tell(club, names[i] + "=" + (100 + i) + "@1"), 1);
            Check.due(names[i] + " ahead of its month", club.rule(i, 0), first[i]);
            Check.due(names[i] + " from its month on", club.rule(i, 1), 100 + i);
        }
    }

    private static void blanksMayStandBetweenTokens() {
        BookClub club = new BookClub();
        Check.due("blanks everywhere", Check.tell(club, "   gift  =  7  @  2  ,   late = 0   "), 2);
        Check.due("gift", club.rule(3, 2), 7);
        faultDue("blanks alone", "    ", 1, 4);
        faultDue("a blank in a name", "gi ft=1", 1, 0);
        faultDue("a blank in a number", "gift=1 0", 1, 7);
        faultDue("a tab", "gift=\t1", 1, 5);
    }

    private static void badBytes() {
        faultDue("a digit for a name", "5=5", 1, 0);
        faultDue("a sign at once", ",gift=1", 1, 0);
        faultDue("two commas", "gift=1,,late=1", 1, 7);
        faultDue("no equals", "gift 1", 1, 5);
        faultDue("two equals", "gift==1", 1, 5);
        faultDue("a minus", "gift=-1", 1, 5);
        faultDue("a letter behind a number", "gift=1x", 1, 6);
        faultDue("a name behind a number", "gift=1 late=1", 1, 7);
        faultDue("two months", "gift=1@2@3", 1, 8);
        faultDue("a letter for a month", "gift=1@x", 1, 7);
        faultDue("no value ahead of a bad month", "gift=@x", 1, 5);
        faultDue("a month without a value", "gift@1=1", 1, 4);
        faultDue("a digit behind a name", "gift1=1", 1, 4);
        faultDue("a nul behind all", "gift=1\0", 1, 6);
        faultDue("a high byte", "gift=1" + (char) 233, 1, 6);
    }

    private static void endsWhereItCannotBe() {
        faultDue("nothing", "", 1, 0);
        faultDue("a name alone", "gift", 1, 4);
        faultDue("a name and blanks", "gift  ", 1, 6);
        faultDue("no value", "gift=", 1, 5);
        faultDue("no value, a blank", "gift= ", 1, 6);
        faultDue("no month", "gift=1@", 1, 7);
        faultDue("a comma last", "gift=1,", 1, 7);
        faultDue("a comma and a blank last", "gift=1, ", 1, 8);
    }

    private static void lettersThatAreNoName() {
        faultDue("too short", "gif=1", 1, 0);
        faultDue("another first letter", "lift=1", 1, 0);
        faultDue("another last letter", "gifs=1", 1, 0);
        faultDue("too long", "gifts=1", 1, 0);
        faultDue("two names", "giftlate=1", 1, 0);
        faultDue("second statement", "gift=1, foo=2", 1, 8);
        faultDue("upper case", "Gift=1", 1, 0);
        faultDue("no name at the end", "gi", 1, 0);
    }

    private static void numbersTooLarge() {
        BookClub club = new BookClub();
        Check.due("10000 is no fault", Check.tell(club, "gift=10000@60"), 1);
        Check.due("leading zeros are no fault", Check.tell(club, "gift=00000000000000000005@0000000060"), 1);
        Check.due("gift", club.rule(3, 60), 5);
        faultDue("10001", "gift=10001", 2, 5);
        faultDue("month 61", "gift=1@61", 2, 7);
        faultDue("ten times the greatest value", "gift=100000", 2, 5);
        faultDue("ten times the greatest month", "gift=1@600", 2, 7);
        faultDue("blanks ahead of it", "gift=  10001", 2, 7);
        faultDue("one that wraps an int", "gift=4294967297", 2, 5);
        faultDue("one that wraps a long", "gift=18446744073709551617", 2, 5);
        faultDue("a long one", "gift=" + "9".repeat(195), 2, 5);
        faultDue("a month that wraps", "gift=1@4294967296", 2, 7);
    }

    private static void firstFaultByPlace() {
        faultDue("large, then a bad byte", "gift=10001x", 2, 5);
        faultDue("large, then an unknown name", "gift=99999, foo=1", 2, 5);
        faultDue("unknown name, then large", "foo=99999", 1, 0);
        faultDue("value and month too large", "gift=99999@99", 2, 5);
        faultDue("bad byte, then large", "gift=1;late=99999", 1, 6);
    }

    private static void moreThanSixtyRules() {
        BookClub club = new BookClub();
        String twenty = "end=1,".repeat(19) + "end=1";
        for (int i = 1; i <= 3; i++) {
            Check.due("twenty rules", Check.tell(club, twenty), 20);
        }
        Check.due("sixty rules", club.count(6), 60);
        faultOf(club, "the sixty-first", "  gift=1", 3, 2);
        faultOf(club, "the sixty-first with a bad byte behind", "gift#", 3, 0);
        faultOf(club, "the sixty-first is no name", "foo=1", 1, 0);
        faultOf(club, "nothing with sixty", "", 1, 0);
        Check.due("still sixty rules", club.count(6), 60);

        BookClub other = new BookClub();
        Check.tell(other, twenty);
        Check.tell(other, twenty);
        Check.tell(other, "end=1,".repeat(18) + "end=1");
        faultOf(other, "the second of two is too many", "dun=9,part=9", 3, 6);
        Check.due("none of them counts", other.count(6), 59);
        Check.due("dun as at first", other.rule(5, 0), 3);
        faultOf(other, "a fault ahead of the one too many", "dun=99999,part=9", 2, 4);
        Check.due("the sixtieth", Check.tell(other, "dun=9"), 1);
        Check.due("dun", other.rule(5, 0), 9);
    }

    private static void faultyTextsCountNothing() {
        BookClub club = new BookClub();
        Check.due("faulty at the end", Check.tell(club, "limit=1,late=2,gift=3@61"), -1);
        Check.due("no rules", club.count(6), 0);
        Check.due("limit as at first", club.rule(0, 0), 10);
        Check.due("late as at first", club.rule(1, 0), 0);
        Check.due("one good text", Check.tell(club, "gift=4"), 1);
        Check.due("limit still as at first", club.rule(0, 0), 10);
    }

    private static void faultOfTheLatest() {
        BookClub club = new BookClub();
        faultOf(club, "a fault", "gift=10001", 2, 5);
        Check.due("fault(2)", club.fault(2), -1);
        Check.due("fault(-1)", club.fault(-1), -1);
        Check.tell(club, "gift=1");
        Check.due("fault after a good text", club.fault(0), 0);
        Check.due("place after a good text", club.fault(1), 0);
    }

    private static void rulesInForce() {
        BookClub club = new BookClub();
        Check.tell(club, "debt=5@10, debt=3, debt=7@10, debt=9@20");
        Check.due("month 0", club.rule(4, 0), 3);
        Check.due("month 9", club.rule(4, 9), 3);
        Check.due("month 10: told last", club.rule(4, 10), 7);
        Check.due("month 19", club.rule(4, 19), 7);
        Check.due("month 20", club.rule(4, 20), 9);
        Check.due("month 60", club.rule(4, 60), 9);
        Check.tell(club, "debt=1@5");
        Check.due("an earlier month told later", club.rule(4, 10), 7);
        Check.due("month 5", club.rule(4, 5), 1);
        Check.due("another name", club.rule(5, 10), 3);
    }

    private static void ruleRefuses() {
        BookClub club = new BookClub();
        Check.due("rule(-1, 0)", club.rule(-1, 0), -1);
        Check.due("rule(8, 0)", club.rule(8, 0), -1);
        Check.due("rule(0, -1)", club.rule(0, -1), -1);
        Check.due("rule(0, 61)", club.rule(0, 61), -1);
        Check.due("rule of the greatest numbers", club.rule(Integer.MAX_VALUE, Integer.MIN_VALUE), -1);
    }

    private static void faultDue(String what, String text, int fault, int place) {
        faultOf(new BookClub(), what, text, fault, place);
    }

    private static void faultOf(BookClub club, String what, String text, int fault, int place) {
        Check.due(what + ": rules()", Check.tell(club, text), -1);
        Check.due(what + ": fault", club.fault(0), fault);
        Check.due(what + ": place", club.fault(1), place);
    }
}
