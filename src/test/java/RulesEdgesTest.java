/** Terms 1 and promises 2 to 6: a test for each sentence that names a boundary case. */
public final class RulesEdgesTest {
    private static final String[] NAMES = {"limit", "late", "bonus", "gift", "debt", "dun", "end", "part"};
    private static final int[] WITHOUT_ANY = {10, 0, 0, 0, 0, 3, 6, 50};
    /** Twenty rules in 119 bytes. */
    private static final String TWENTY = "end=1,".repeat(19) + "end=1";

    public static void main(String[] args) {
        textOfTwoHundredBytes();
        manyStatementsInOneText();
        monthZeroWithoutOne();
        numbersUpToTenThousand();
        numbersAreDigits();
        monthsUpToSixty();
        anyBlanksBetweenTokens();
        noBlanksInsideTokens();
        noOtherBytesAreBlanks();
        ruleOfTheGreatestMonth();
        ruleNotAboveTheMonth();
        ruleToldLastOfEqualOnes();
        rulesWithoutAny();
        faultIsTheFirstByPlace();
        everyByteWhereItCannotStand();
        noNameAtItsFirstLetter();
        endWhereItCannotBe();
        tooLargeAtItsFirstDigit();
        sixtyRulesAndNoMore();
        sixtyFirstInsideAText();
        faultyTextsUseNoRoom();
        feedUpToTwoHundred();
        feedBeyondTwoHundred();
        feedOfAllBytes();
        endUpToTheLength();
        endBeyondTheLength();
        endBelowZero();
        tapeIsEmptyBehindRules();
        noneOfAFaultyTextCounts();
        faultBeforeAnyText();
        faultOfAnotherWhat();
        faultOfTheLatestAlone();
        noSuchRule();
        noSuchMonth();
        Check.finish();
    }

    // ---- terms

    private static void textOfTwoHundredBytes() {
        Check.sentence("A TEXT (at most 200 bytes)");
        BookClub club = new BookClub();
        Check.due("a number up to the last byte", Check.tell(club, "gift=" + "0".repeat(194) + "7"), 1);
        Check.due("that number", club.rule(3, 0), 7);
        Check.due("a month up to the last byte", Check.tell(club, "gift=8@" + "0".repeat(192) + "3"), 1);
        Check.due("from that month", club.rule(3, 3), 8);
        Check.due("ahead of that month", club.rule(3, 2), 7);
        Check.due("blanks up to the last byte", Check.tell(club, "late=4" + " ".repeat(194)), 1);
        Check.due("a statement in the last bytes", Check.tell(club, " ".repeat(194) + "late=5"), 1);
        Check.due("that statement's number", club.rule(1, 0), 5);
        faultDue("a comma as the last byte", "late=" + "0".repeat(194) + ",", 1, 200);
        faultDue("an equals as the last byte", " ".repeat(195) + "late=", 1, 200);
        faultDue("an at as the last byte", "late=" + "0".repeat(194) + "@", 1, 200);
        faultDue("a name as the last bytes", " ".repeat(196) + "late", 1, 200);
        faultDue("letters up to the last byte", "late".repeat(50), 1, 0);
        faultDue("blanks alone up to the last byte", " ".repeat(200), 1, 200);
        faultDue("a bad last byte", "late=" + "0".repeat(194) + "x", 1, 199);
        faultDue("too large up to the last byte", "late=" + "9".repeat(195), 2, 5);
    }

    private static void manyStatementsInOneText() {
        Check.sentence("STATEMENT { , STATEMENT }");
        BookClub club = new BookClub();
        Check.due("one", Check.tell(club, "dun=1"), 1);
        Check.due("as many as 200 bytes hold", Check.tell(club, "dun=2,".repeat(32) + "dun=7"), 33);
        Check.due("the last of them", club.rule(5, 0), 7);
        faultDue("none", "", 1, 0);
        faultDue("a comma alone", ",", 1, 0);
        faultDue("a comma ahead", ",dun=1", 1, 0);
        faultDue("a comma behind", "dun=1,", 1, 6);
        faultDue("two commas", "dun=1,,dun=1", 1, 6);
        faultDue("no comma", "dun=1 dun=1", 1, 6);
    }

    private static void monthZeroWithoutOne() {
        Check.sentence("the second the MONTH from which it is (without one, 0)");
        BookClub club = new BookClub();
        Check.closeTimes(club, 3);
        Check.tell(club, "debt=7");
        Check.due("told in month 3, in month 0", club.rule(4, 0), 7);
        Check.due("told in month 3, in month 60", club.rule(4, 60), 7);
        Check.tell(club, "dun=9@0");
        Check.due("month 0 told", club.rule(5, 0), 9);
    }

    private static void numbersUpToTenThousand() {
        Check.sentence("NUMBERS: digits, at most 10000");
        BookClub club = new BookClub();
        for (int name = 0; name < NAMES.length; name++) {
            Check.due(NAMES[name] + "=10000", Check.tell(club, NAMES[name] + "=10000"), 1);
            Check.due(NAMES[name] + " in force", club.rule(name, 0), 10000);
            Check.due(NAMES[name] + "=0", Check.tell(club, NAMES[name] + "=0"), 1);
            Check.due(NAMES[name] + " in force", club.rule(name, 0), 0);
            faultDue(NAMES[name] + "=10001", NAMES[name] + "=10001", 2, NAMES[name].length() + 1);
        }
    }

    private static void numbersAreDigits() {
        Check.sentence("NUMBERS: digits, at most 10000");
        BookClub club = new BookClub();
        Check.due("zeros ahead", Check.tell(club, "gift=0000010000"), 1);
        Check.due("their number", club.rule(3, 0), 10000);
        Check.due("zeros alone", Check.tell(club, "gift=00000000"), 1);
        Check.due("their number", club.rule(3, 0), 0);
        Check.due("every digit", Check.tell(club, "gift=1234,late=5678,debt=90"), 3);
        Check.due("1 to 4", club.rule(3, 0), 1234);
        Check.due("5 to 8", club.rule(1, 0), 5678);
        Check.due("9 and 0", club.rule(4, 0), 90);
        faultDue("no digit", "gift=,late=1", 1, 5);
        faultDue("a minus", "gift=-1", 1, 5);
        faultDue("a plus", "gift=+1", 1, 5);
        faultDue("a point", "gift=1.5", 1, 6);
    }

    private static void monthsUpToSixty() {
        Check.sentence("the MONTH at most 60");
        BookClub club = new BookClub();
        Check.due("month 60", Check.tell(club, "gift=3@60"), 1);
        Check.due("in month 59", club.rule(3, 59), 0);
        Check.due("in month 60", club.rule(3, 60), 3);
        Check.due("zeros ahead", Check.tell(club, "late=4@000060"), 1);
        Check.due("in month 60", club.rule(1, 60), 4);
        faultDue("month 61", "gift=3@61", 2, 7);
        faultDue("month 600", "gift=3@600", 2, 7);
        faultDue("month 10000", "gift=3@10000", 2, 7);
        faultDue("a month of 2^32", "gift=3@4294967296", 2, 7);
    }

    private static void anyBlanksBetweenTokens() {
        Check.sentence("Between tokens any blanks (32)");
        BookClub club = new BookClub();
        Check.due("none", Check.tell(club, "gift=7@2,late=1"), 2);
        Check.due("one", Check.tell(club, " gift = 7 @ 2 , late = 1 "), 2);
        Check.due("many", Check.tell(club, "    gift   =  7    @   2   ,    late  =   1     "), 2);
        Check.due("gift", club.rule(3, 2), 7);
        Check.due("late", club.rule(1, 0), 1);
    }

    private static void noBlanksInsideTokens() {
        Check.sentence("Between tokens any blanks (32)");
        faultDue("in a name", "gi ft=1", 1, 0);
        faultDue("in a number", "gift=1 0", 1, 7);
        faultDue("in a month", "gift=1@1 0", 1, 9);
    }

    private static void noOtherBytesAreBlanks() {
        Check.sentence("Between tokens any blanks (32)");
        int[] others = {0, 9, 10, 11, 12, 13, 31, 33, 127, 128, 160, 255};
        for (int other : others) {
            faultDue("byte " + other + " ahead of a name", (char) other + "gift=1", 1, 0);
            faultDue("byte " + other + " behind a name", "gift" + (char) other + "=1", 1, 4);
            faultDue("byte " + other + " behind a number", "gift=1" + (char) other, 1, 6);
        }
    }

    private static void ruleOfTheGreatestMonth() {
        Check.sentence("of those of its NAME with a MONTH not above it the one with the greatest");
        BookClub club = Check.clubWith("debt=9@20,debt=3,debt=5@10,dun=8@15");
        int[] months = {0, 9, 10, 14, 15, 19, 20, 60};
        int[] due = {3, 3, 5, 5, 5, 5, 9, 9};
        for (int i = 0; i < months.length; i++) {
            Check.due("debt in month " + months[i], club.rule(4, months[i]), due[i]);
        }
        Check.tell(club, "debt=1@5");
        Check.due("told last, of an earlier month", club.rule(4, 10), 5);
        Check.due("in its own month", club.rule(4, 5), 1);
    }

    private static void ruleNotAboveTheMonth() {
        Check.sentence("with a MONTH not above it");
        BookClub club = Check.clubWith("end=9@1,part=8@60");
        Check.due("the month ahead of it", club.rule(6, 0), 6);
        Check.due("its own month", club.rule(6, 1), 9);
        Check.due("the month ahead of 60", club.rule(7, 59), 50);
        Check.due("month 60", club.rule(7, 60), 8);
    }

    private static void ruleToldLastOfEqualOnes() {
        Check.sentence("of equal ones told last");
        BookClub club = Check.clubWith("debt=5@10,debt=7@10,debt=6@10");
        Check.due("in one text", club.rule(4, 10), 6);
        Check.tell(club, "debt=2@10");
        Check.due("in another text", club.rule(4, 10), 2);
        Check.tell(club, "gift=4@0,gift=3");
        Check.due("of month 0 without one", club.rule(3, 0), 3);
    }

    private static void rulesWithoutAny() {
        Check.sentence("without any: limit 10, late 0, bonus 0, gift 0, debt 0, dun 3, end 6, part 50");
        BookClub club = new BookClub();
        for (int name = 0; name < NAMES.length; name++) {
            Check.due(NAMES[name] + " in month 0", club.rule(name, 0), WITHOUT_ANY[name]);
            Check.due(NAMES[name] + " in month 60", club.rule(name, 60), WITHOUT_ANY[name]);
        }
        Check.tell(club, "limit=0,dun=0,end=0,part=0");
        for (int name = 0; name < NAMES.length; name++) {
            Check.due(NAMES[name] + " when those above 0 are told as 0", club.rule(name, 0), 0);
        }
    }

    private static void faultIsTheFirstByPlace() {
        Check.sentence("FAULT of a TEXT, the first by place");
        faultDue("2 ahead of 1", "gift=10001x", 2, 5);
        faultDue("2 ahead of no name", "gift=99999, foo=1", 2, 5);
        faultDue("no name ahead of 2", "foo=99999", 1, 0);
        faultDue("two of 2", "gift=99999@99", 2, 5);
        faultDue("1 ahead of 2", "gift=1;late=99999", 1, 6);
        faultDue("1 at a number that is too large", "gift 99999", 1, 5);
        faultDue("1 at a number, 2 behind it", "gift 1,late=99999", 1, 5);
        faultDue("1 at a number, no name behind it", "gift 1,foo=1", 1, 5);
        faultDue("2 ahead of the end", "gift=1@61,", 2, 7);
        BookClub full = withRules(60);
        faultOf(full, "3 ahead of 1", "gift#", 3, 0);
        faultOf(full, "3 ahead of 2", "gift=99999", 3, 0);
        faultOf(full, "1 ahead of 3", "#gift=1", 1, 0);
        BookClub almost = withRules(59);
        faultOf(almost, "2 ahead of 3", "dun=99999,part=9", 2, 4);
        faultOf(almost, "1 ahead of 3", "dun=9;part=9", 1, 5);
    }

    /** Each of the 256 bytes behind the beginnings of a text; a letter behind a name is another sentence's. */
    private static void everyByteWhereItCannotStand() {
        Check.sentence("1 a byte that can't stand there");
        for (int b = 0; b < 256; b++) {
            byteBehind("", b, " ", "");
            byteBehind("gift=", b, " ", "0123456789");
            byteBehind("gift=1", b, ",@", " 0123456789");
            byteBehind("gift=1 ", b, ",@", " ");
            byteBehind("gift=1@", b, " ", "0123456789");
            byteBehind("gift=1@2", b, ",", " 0123456789");
            byteBehind("gift=1@2 ", b, ",", " ");
            byteBehind("gift=1,", b, " ", "");
            byteBehind("gift ", b, " =", "");
            if (!isLetter(b)) {
                byteBehind("gift", b, " =", "");
            }
        }
    }

    private static boolean isLetter(int b) {
        return b >= 'a' && b <= 'z' || b >= 'A' && b <= 'Z';
    }

    /** A byte that asks for more, one with which the text may end, or one that can't stand there. */
    private static void byteBehind(String ahead, int b, String goingOn, String ending) {
        String text = ahead + (char) b;
        if (ending.indexOf(b) >= 0) {
            Check.due("byte " + b + " behind '" + ahead + "'", Check.tell(new BookClub(), text), 1);
        } else {
            int place = goingOn.indexOf(b) >= 0 ? text.length() : ahead.length();
            faultDue("byte " + b + " behind '" + ahead + "'", text, 1, place);
        }
    }

    private static void noNameAtItsFirstLetter() {
        Check.sentence("or letters that are no NAME: at their first");
        for (String name : NAMES) {
            faultDue(name + " without its last", "dun=1, " + name.substring(0, name.length() - 1) + "=1", 1, 7);
            faultDue(name + " without its first", "dun=1, " + name.substring(1) + "=1", 1, 7);
            faultDue(name + " and a letter", "dun=1, " + name + "s=1", 1, 7);
            faultDue(name + " twice", "dun=1, " + name + name + "=1", 1, 7);
            faultDue(name + " with another last", "dun=1, " + name.substring(0, name.length() - 1) + "z=1", 1, 7);
            faultDue(name + " with another first", "dun=1, z" + name.substring(1) + "=1", 1, 7);
            faultDue(name + " in capitals", "dun=1, " + name.toUpperCase() + "=1", 1, 7);
        }
        faultDue("letters alone", "gi", 1, 0);
    }

    private static void endWhereItCannotBe() {
        Check.sentence("or the end where it can't be");
        faultDue("nothing", "", 1, 0);
        faultDue("blanks", "    ", 1, 4);
        faultDue("behind a name", "gift", 1, 4);
        faultDue("behind a name and blanks", "gift  ", 1, 6);
        faultDue("behind an equals", "gift=", 1, 5);
        faultDue("behind an equals and a blank", "gift= ", 1, 6);
        faultDue("behind an at", "gift=1@", 1, 7);
        faultDue("behind an at and a blank", "gift=1@ ", 1, 8);
        faultDue("behind a comma", "gift=1,", 1, 7);
        faultDue("behind a comma and a blank", "gift=1, ", 1, 8);
        faultDue("behind a month and a comma", "gift=1@2,", 1, 9);
    }

    private static void tooLargeAtItsFirstDigit() {
        Check.sentence("2 a NUMBER that is too large (at its first digit)");
        faultDue("behind blanks", "gift=  10001", 2, 7);
        faultDue("behind zeros", "gift=00010001", 2, 5);
        faultDue("of the second statement", "gift=1,late=10001", 2, 12);
        faultDue("a month behind blanks", "gift=1 @  61", 2, 10);
        faultDue("a month of the second statement", "gift=1@60,late=1@61", 2, 17);
        faultDue("ten times the greatest", "gift=100000", 2, 5);
        faultDue("2^31", "gift=2147483648", 2, 5);
        faultDue("2^32", "gift=4294967296", 2, 5);
        faultDue("2^32 and one", "gift=4294967297", 2, 5);
        faultDue("2^64 and one", "gift=18446744073709551617", 2, 5);
    }

    private static void sixtyRulesAndNoMore() {
        Check.sentence("3 a NAME at which there would be more than 60 RULES");
        BookClub club = withRules(59);
        Check.due("the sixtieth", Check.tell(club, "gift=1"), 1);
        Check.due("rules", club.count(6), 60);
        for (String name : NAMES) {
            faultOf(club, "the sixty-first, " + name, "  " + name + "=1", 3, 2);
        }
        faultOf(club, "the sixty-first is no name", "foo=1", 1, 0);
        faultOf(club, "nothing with sixty", "", 1, 0);
        Check.due("rules still", club.count(6), 60);
    }

    private static void sixtyFirstInsideAText() {
        Check.sentence("3 a NAME at which there would be more than 60 RULES");
        BookClub club = withRules(58);
        faultOf(club, "the third of three", "dun=9,part=9@5, late=9", 3, 16);
        Check.due("none of them counts", club.count(6), 58);
        Check.due("dun as at first", club.rule(5, 0), 3);
        Check.due("two fit", Check.tell(club, "dun=9,part=9@5"), 2);
        Check.due("rules", club.count(6), 60);
    }

    private static void faultyTextsUseNoRoom() {
        Check.sentence("NONE, and none of them counts: it has a FAULT");
        BookClub club = withRules(40);
        for (int i = 0; i < 3; i++) {
            Check.due("twenty rules and a fault", Check.tell(club, TWENTY + ","), -1);
        }
        Check.due("twenty rules", Check.tell(club, TWENTY), 20);
        Check.due("rules", club.count(6), 60);
    }

    // ---- promises

    private static void feedUpToTwoHundred() {
        Check.sentence("Twenty bytes come behind THE TAPE");
        BookClub club = new BookClub();
        for (int i = 1; i <= 10; i++) {
            Check.due("feed " + i, club.feed(0, 0, 0, 0, 0), 20 * i);
            Check.due("bytes", club.count(7), 20 * i);
        }
        club.end(180);
        Check.due("from 180 on", club.feed(0, 0, 0, 0, 0), 200);
        club.end(1);
        Check.due("from 1 on", club.feed(0, 0, 0, 0, 0), 21);
    }

    private static void feedBeyondTwoHundred() {
        Check.sentence("NONE, and none come, if there would be more than 200");
        BookClub club = new BookClub();
        Check.tape(club, "gift=" + "0".repeat(194) + "7");
        int wrong = 0x2C787878;
        Check.due("from 200", club.feed(wrong, wrong, wrong, wrong, wrong), -1);
        Check.due("bytes", club.count(7), 200);
        Check.due("the text is as it was", club.rules(), 1);
        Check.due("its rule", club.rule(3, 0), 7);
        Check.tape(club, "gift=" + "0".repeat(175) + "8");
        Check.due("bytes", club.count(7), 181);
        Check.due("from 181", club.feed(wrong, wrong, wrong, wrong, wrong), -1);
        Check.due("bytes", club.count(7), 181);
        Check.due("the text is as it was", club.rules(), 1);
        Check.due("its rule", club.rule(3, 0), 8);
    }

    private static void feedOfAllBytes() {
        Check.sentence("of each number the highest first");
        BookClub club = new BookClub();
        // "gift" "=123" "4,la" "te=5" "6@7 "
        club.feed(0x67696674, 0x3D313233, 0x342C6C61, 0x74653D35, 0x36403720);
        Check.due("five numbers", club.rules(), 2);
        Check.due("gift", club.rule(3, 0), 1234);
        Check.due("late", club.rule(1, 7), 56);
        int[] signed = {-1, Integer.MIN_VALUE, 0x80808080, 0xFF000000};
        for (int v : signed) {
            club.feed(0x64756E3D, 0x38202020, v, v, v);
            Check.due("a number below 0", club.rules(), -1);
            Check.due("its first byte", club.fault(1), 8);
        }
    }

    private static void endUpToTheLength() {
        Check.sentence("THE TAPE has its first n bytes alone: true");
        BookClub club = new BookClub();
        Check.due("end(0) of nothing", club.end(0), true);
        Check.tape(club, "gift=12345");
        Check.due("end(10) of ten", club.end(10), true);
        Check.due("bytes", club.count(7), 10);
        Check.due("end(7) of ten", club.end(7), true);
        Check.due("bytes", club.count(7), 7);
        Check.due("the first ones are read", club.rules(), 1);
        Check.due("gift", club.rule(3, 0), 12);
        club.feed(0, 0, 0, 0, 0);
        Check.due("end(0) of twenty", club.end(0), true);
        Check.due("bytes", club.count(7), 0);
    }

    private static void endBeyondTheLength() {
        Check.sentence("false if it has not so many");
        BookClub club = new BookClub();
        Check.due("end(1) of nothing", club.end(1), false);
        club.feed(1, 2, 3, 4, 5);
        int[] tooMany = {21, 200, 201, Integer.MAX_VALUE};
        for (int n : tooMany) {
            Check.due("end(" + n + ") of twenty", club.end(n), false);
            Check.due("bytes", club.count(7), 20);
        }
        club.end(7);
        Check.due("what was cut does not come back", club.end(8), false);
    }

    private static void endBelowZero() {
        Check.sentence("or n is below 0");
        BookClub club = new BookClub();
        Check.due("end(-1) of nothing", club.end(-1), false);
        club.feed(1, 2, 3, 4, 5);
        int[] below = {-1, -20, Integer.MIN_VALUE};
        for (int n : below) {
            Check.due("end(" + n + ")", club.end(n), false);
            Check.due("bytes", club.count(7), 20);
        }
    }

    private static void tapeIsEmptyBehindRules() {
        Check.sentence("THE TAPE, which is empty then, is a TEXT: how many RULES it tells");
        BookClub club = new BookClub();
        Check.due("a good text", Check.tell(club, "late=3"), 1);
        Check.due("bytes", club.count(7), 0);
        Check.due("the empty tape", club.rules(), -1);
        Check.due("a faulty text", Check.tell(club, "late=3,"), -1);
        Check.due("bytes", club.count(7), 0);
        Check.due("a full tape", Check.tell(club, "late=3" + " ".repeat(194)), 1);
        Check.due("bytes", club.count(7), 0);
        Check.due("feed on the empty tape", club.feed(0, 0, 0, 0, 0), 20);
    }

    private static void noneOfAFaultyTextCounts() {
        Check.sentence("NONE, and none of them counts: it has a FAULT");
        String[] faulty = {"limit=1,late=2,gift=3@61", "limit=1,late=2,", "limit=1,late=2,x", "limit=1,late=2;"};
        BookClub club = new BookClub();
        for (String text : faulty) {
            Check.due(text, Check.tell(club, text), -1);
            Check.due("rules", club.count(6), 0);
            Check.due("limit", club.rule(0, 0), 10);
        }
        Check.due("a good text behind them", Check.tell(club, "gift=4"), 1);
        Check.due("limit", club.rule(0, 0), 10);
        Check.due("late", club.rule(1, 0), 0);
    }

    private static void faultBeforeAnyText() {
        Check.sentence("its FAULT (0 without), 1: its place (0)");
        BookClub club = new BookClub();
        Check.due("fault before any text", club.fault(0), 0);
        Check.due("place before any text", club.fault(1), 0);
        Check.tell(club, "  gift=1@61");
        Check.tell(club, "gift=1");
        Check.due("fault of a good text", club.fault(0), 0);
        Check.due("place of a good text", club.fault(1), 0);
    }

    private static void faultOfAnotherWhat() {
        Check.sentence("NONE for another what");
        BookClub club = new BookClub();
        Check.tell(club, "gift=10001");
        for (int what : Check.outside(0, 1)) {
            Check.due("fault(" + what + ")", club.fault(what), -1);
        }
    }

    private static void faultOfTheLatestAlone() {
        Check.sentence("Of the latest rules()");
        BookClub club = new BookClub();
        faultOf(club, "the first", "gift=10001", 2, 5);
        faultOf(club, "the second", "gift", 1, 4);
        club.feed(0, 0, 0, 0, 0);
        club.end(2);
        club.close();
        Check.due("it stays until the next", club.fault(0), 1);
        Check.due("its place, too", club.fault(1), 4);
    }

    private static void noSuchRule() {
        Check.sentence("NONE: no such RULE, MONTH");
        BookClub club = Check.clubWith("limit=1,part=2");
        Check.due("rule(0, 0)", club.rule(0, 0), 1);
        Check.due("rule(7, 0)", club.rule(7, 0), 2);
        for (int name : Check.outside(0, 7)) {
            Check.due("rule(" + name + ", 0)", club.rule(name, 0), -1);
        }
    }

    private static void noSuchMonth() {
        Check.sentence("A RULE in a MONTH (0 .. 60)");
        BookClub club = Check.clubWith("limit=1,limit=2@60");
        Check.due("rule(0, 0)", club.rule(0, 0), 1);
        Check.due("rule(0, 60), far ahead of the month that is", club.rule(0, 60), 2);
        for (int month : Check.outside(0, 60)) {
            Check.due("rule(0, " + month + ")", club.rule(0, month), -1);
        }
    }

    private static BookClub withRules(int rules) {
        BookClub club = new BookClub();
        int told = 0;
        for (; told + 20 <= rules; told += 20) {
            Check.tell(club, TWENTY);
        }
        for (; told < rules; told++) {
            Check.tell(club, "end=1");
        }
        Check.due("rules told", club.count(6), rules);
        return club;
    }

    private static void faultDue(String what, String text, int fault, int place) {
        faultOf(new BookClub(), what, text, fault, place);
    }

    private static void faultOf(BookClub club, String what, String text, int fault, int place) {
        Check.due(what + ": rules()", Check.tell(club, text), -1);
        Check.due(what + ": fault", club.fault(0), fault);
        Check.due(what + ": place", club.fault(1), place);
    }
}
