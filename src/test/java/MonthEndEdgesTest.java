/** Terms 2, THE MONTH ENDS: a test for each sentence that names a boundary case. */
public final class MonthEndEdgesTest {
    public static void main(String[] args) {
        inTimeUpToTheLimit();
        limitsOfZeroAndTenThousand();
        limitOfTheMonthThatEnds();
        refusalsInTimeAreNotTakenBack();
        thoseNotSentGiveNothingBack();
        thoseWhoDidNotRefuseGiveNothingBack();
        refusalsOfTheMonthAheadAlone();
        takenBackOnceThoughNotSentAgain();
        noMonthAheadOfTheFirst();
        takenBackIntoItsOwnStock();
        takenBackWhatTheVolumeWas();
        takenBackWhenTheVolumeIsStruck();
        lateCutDown();
        lateOfZero();
        lateOfTheMonthThatEnds();
        endedOnesGiveBackToo();
        thoseInAlone();
        sentWhileThereIsStock();
        stockOfTheMonthAlone();
        volumeAboveZero();
        bonusAboveZero();
        bonusGoesIntoBought();
        boughtStaysWhenTakenBack();
        partCutDown();
        shortWithoutStock();
        balanceBelowDebtsContrary();
        owingNoMore();
        dunnedWithDunOrMore();
        endedWithEndOrMore();
        endedAheadOfDunned();
        moreThanDunAndEndWhenTheyFall();
        dunnedStaysWhenDunRises();
        endAndDunOfZero();
        endedOnesAreNotJudged();
        struckEntriesDoNotCount();
        judgedBehindSending();
        nextMonthWithoutAChoice();
        nextMonthWithoutRefusals();
        Check.finish();
    }

    // ---- in time

    private static void inTimeUpToTheLimit() {
        Check.sentence("It is in TIME, if that is not above limit");
        BookClub club = Check.clubWith("limit=5", 3);
        club.refuse(0, 2);
        club.refuse(1, 3);
        club.refuse(2, 4);
        Check.due("sent", Check.send(club, 1, 9), 1);
        Check.due("below the limit", Check.member(club, 0, 7), 0);
        Check.due("at the limit", Check.member(club, 1, 7), 0);
        Check.due("above the limit", Check.member(club, 2, 7), 1);
        Check.due("in time is not short", Check.member(club, 1, 8), 0);
    }

    private static void limitsOfZeroAndTenThousand() {
        Check.sentence("It is in TIME, if that is not above limit");
        BookClub none = Check.clubWith("limit=0", 1);
        none.lag(0, 0);
        Check.due("the earliest day", none.refuse(0, 1), 1);
        Check.due("limit 0: never in time", Check.send(none, 1, 1), 1);
        none.close();
        Check.due("limit 0: taken back", none.book(0, 4), 1);
        BookClub first = Check.clubWith("limit=1", 1);
        first.lag(0, 0);
        first.refuse(0, 1);
        Check.due("limit 1: the earliest day", Check.send(first, 1, 1), 0);
        BookClub all = Check.clubWith("limit=50", 1);
        all.lag(0, 20);
        Check.due("the latest day", all.refuse(0, 30), 50);
        Check.due("limit 50: always in time", Check.send(all, 1, 1), 0);
        BookClub almost = Check.clubWith("limit=49", 1);
        almost.lag(0, 20);
        almost.refuse(0, 30);
        Check.due("limit 49: the latest day", Check.send(almost, 1, 1), 1);
    }

    private static void limitOfTheMonthThatEnds() {
        Check.sentence("It is in TIME, if that is not above limit");
        BookClub club = Check.clubWith("limit=7,limit=6@1,limit=7@2", 1);
        int[] sent = {0, 1, 0};
        for (int month = 0; month < sent.length; month++) {
            club.refuse(0, 5);
            Check.due("sent in month " + month, Check.send(club, 0, 1), sent[month]);
        }
        club.refuse(0, 5);
        Check.tell(club, "limit=6@3");
        Check.due("by a limit told behind the refusal", Check.send(club, 0, 1), 1);
        Check.tell(club, "limit=7@3");
        club.close();
        Check.due("what was late is taken back, though the limit rose since", club.book(3, 4), 1);
    }

    // ---- 1: taken back

    private static void refusalsInTimeAreNotTakenBack() {
        Check.sentence("those whose REFUSAL of the MONTH ahead was not in TIME and who were SENT it");
        BookClub club = Check.clubWith("limit=3", 2);
        club.refuse(0, 1);
        club.refuse(1, 2);
        Check.due("sent", Check.send(club, 10, 2), 1);
        club.close();
        Check.due("taken back", club.book(0, 4), 1);
        Check.due("balance of the one in time", Check.member(club, 0, 5), 0);
        Check.entryDue(club, 1, 1, 1, 3, 10);
    }

    private static void thoseNotSentGiveNothingBack() {
        Check.sentence("those whose REFUSAL of the MONTH ahead was not in TIME and who were SENT it");
        BookClub club = Check.clubWith("limit=0,late=50,dun=1,end=0", 4);
        Check.send(club, 10, 1);
        Check.due("0 is dunned", Check.member(club, 0, 2), 1);
        for (int member = 0; member < 4; member++) {
            club.refuse(member, 1);
        }
        club.leave(3);
        Check.due("sent to 1 alone", Check.send(club, 10, 1), 1);
        Check.due("2 was short", Check.member(club, 2, 8), 1);
        club.close();
        Check.due("taken back from 1 alone", club.book(1, 4), 1);
        Check.due("0, dunned", Check.member(club, 0, 5), -10);
        Check.due("1, sent", Check.member(club, 1, 5), -5);
        Check.due("2, short", Check.member(club, 2, 5), 0);
        Check.due("3, ended", Check.member(club, 3, 5), 0);
    }

    private static void thoseWhoDidNotRefuseGiveNothingBack() {
        Check.sentence("those whose REFUSAL of the MONTH ahead was not in TIME and who were SENT it");
        BookClub club = Check.clubWith("limit=0", 2);
        club.refuse(0, 1);
        Check.send(club, 10, 2);
        club.refuse(1, 1);
        club.close();
        Check.due("taken back", club.book(0, 4), 1);
        Check.due("one that refused the next one alone", Check.member(club, 1, 5), -10);
    }

    private static void refusalsOfTheMonthAheadAlone() {
        Check.sentence("those whose REFUSAL of the MONTH ahead was not in TIME and who were SENT it");
        BookClub club = Check.clubWith("limit=0,late=10,dun=0", 1);
        club.refuse(0, 1);
        Check.send(club, 50, 1);
        Check.due("not in the month itself", club.book(0, 4), 0);
        for (int month = 1; month <= 3; month++) {
            Check.send(club, 20, 1);
            Check.due("of month 0, behind month " + month, club.book(0, 4), 1);
            Check.due("of month " + month, club.book(month, 4), 0);
        }
        Check.due("entries", club.count(5), 6);
    }

    private static void takenBackOnceThoughNotSentAgain() {
        Check.sentence("those whose REFUSAL of the MONTH ahead was not in TIME and who were SENT it");
        BookClub club = Check.clubWith("limit=0,late=10,dun=1", 3);
        club.pay(0, 100);
        club.pay(2, 100);
        for (int member = 0; member < 3; member++) {
            club.refuse(member, 1);
        }
        Check.send(club, 50, 3);
        Check.due("1 is dunned", Check.member(club, 1, 2), 1);
        club.leave(2);
        for (int month = 1; month <= 3; month++) {
            Check.due("0 is short, 1 dunned, 2 ended", Check.send(club, 20, 0), 0);
            Check.due("taken back of month 0, behind month " + month, club.book(0, 4), 3);
            Check.due("taken back of month " + month, club.book(month, 4), 0);
            Check.due("entries behind month " + month, club.count(5), 12);
        }
    }

    private static void noMonthAheadOfTheFirst() {
        Check.sentence("those whose REFUSAL of the MONTH ahead was not in TIME and who were SENT it");
        BookClub club = Check.clubWith("limit=0,late=50", 1);
        club.refuse(0, 1);
        Check.due("month 0 ends", Check.send(club, 10, 1), 1);
        Check.due("entries", club.count(5), 1);
    }

    private static void takenBackIntoItsOwnStock() {
        Check.sentence("the volume is in that CHOICE's STOCK again");
        BookClub club = Check.clubWith("limit=0", 1);
        club.refuse(0, 1);
        Check.send(club, 10, 1);
        Check.due("stock when it was sent", club.book(0, 2), 0);
        Check.due("not sent as the next month's", club.close(), 0);
        Check.due("stock when it was taken back", club.book(0, 2), 1);
        Check.due("stock of the month that ended", club.book(1, 2), 0);
        Check.due("sent of that choice", club.book(0, 3), 1);
        Check.due("it can be sold off", club.clear(0, 0, 1), 0);
    }

    private static void takenBackWhatTheVolumeWas() {
        Check.sentence("ENTRIES: TAKEN BACK (what its VOLUME was)");
        BookClub club = Check.clubWith("limit=0,bonus=1,part=50", 1);
        club.refuse(0, 1);
        Check.send(club, 5000, 1);
        club.choice(7, 0);
        club.close();
        Check.due("entries", club.count(5), 3);
        Check.entryDue(club, 0, 0, 0, 2, -5000);
        Check.entryDue(club, 1, 0, 0, 5, 2500);
        Check.entryDue(club, 2, 0, 1, 3, 5000);

        BookClub free = Check.clubWith("limit=0,late=50", 1);
        free.refuse(0, 1);
        Check.due("sent at no price", Check.send(free, 0, 1), 1);
        free.close();
        Check.due("taken back at no price", free.book(0, 4), 1);
        Check.due("stock", free.book(0, 2), 1);
        Check.due("there was no VOLUME to take back", free.count(5), 0);
    }

    private static void takenBackWhenTheVolumeIsStruck() {
        Check.sentence("ENTRIES: TAKEN BACK (what its VOLUME was)");
        BookClub club = Check.clubWith("limit=0,late=10", 1);
        club.refuse(0, 1);
        Check.send(club, 50, 1);
        club.strike(0);
        club.close();
        Check.entryDue(club, 1, 0, 1, 3, 50);
        Check.entryDue(club, 2, 0, 1, 4, -5);
        Check.due("balance", Check.member(club, 0, 5), 45);
    }

    private static void lateCutDown() {
        Check.sentence("LATE (late of a hundred of that, cut down; if above 0)");
        fineDue(99, 1, 0);
        fineDue(100, 1, 1);
        fineDue(199, 1, 1);
        fineDue(200, 1, 2);
        fineDue(1, 99, 0);
        fineDue(1, 100, 1);
        fineDue(99, 15, 14);
        fineDue(5000, 10000, 500000);
        fineDue(0, 10000, 0);
    }

    private static void fineDue(int price, int late, int fine) {
        BookClub club = Check.clubWith("limit=0,late=" + late, 1);
        club.refuse(0, 1);
        Check.send(club, price, 1);
        club.close();
        String what = late + " of a hundred of " + price;
        int before = price > 0 ? 2 : 0;
        Check.due(what + ": entries", club.count(5), before + (fine > 0 ? 1 : 0));
        if (fine > 0) {
            Check.entryDue(club, before, 0, 1, 4, -fine);
        }
        Check.due(what + ": balance", Check.member(club, 0, 5), -fine);
    }

    private static void lateOfZero() {
        Check.sentence("LATE (late of a hundred of that, cut down; if above 0)");
        fineDue(5000, 0, 0);
        BookClub club = Check.clubWith("limit=0", 1);
        club.refuse(0, 1);
        Check.send(club, 5000, 1);
        club.close();
        Check.due("without the rule", club.count(5), 2);
    }

    private static void lateOfTheMonthThatEnds() {
        Check.sentence("LATE (late of a hundred of that, cut down; if above 0)");
        BookClub club = Check.clubWith("limit=0,late=10,late=30@1,late=70@2", 1);
        club.refuse(0, 1);
        Check.send(club, 100, 1);
        club.close();
        Check.entryDue(club, 2, 0, 1, 4, -30);
    }

    private static void endedOnesGiveBackToo() {
        Check.sentence("(ENDED ones, too.)");
        BookClub club = Check.clubWith("limit=0,late=10,end=1", 2);
        club.pay(0, 100);
        club.refuse(0, 1);
        club.refuse(1, 1);
        Check.send(club, 50, 2);
        Check.due("paid out to one that leaves", club.leave(0), 50);
        Check.due("the other was ended", Check.member(club, 1, 2), 2);
        club.close();
        Check.due("taken back", club.book(0, 4), 2);
        Check.due("balance of the one that left", Check.member(club, 0, 5), 45);
        Check.due("balance of the other", Check.member(club, 1, 5), -5);
        Check.due("ended both", club.count(4), 2);
    }

    // ---- 2: sent

    private static void thoseInAlone() {
        Check.sentence("those IN without a REFUSAL in TIME");
        BookClub club = Check.clubWith("dun=1,end=0", 3);
        Check.send(club, 10, 1);
        Check.due("0 is dunned", Check.member(club, 0, 2), 1);
        club.leave(1);
        Check.due("sent", Check.send(club, 10, 9), 1);
        Check.due("dunned: not sent", Check.member(club, 0, 7), 0);
        Check.due("ended: not sent", Check.member(club, 1, 7), 0);
        Check.due("in: sent", Check.member(club, 2, 7), 1);
        Check.due("none was short", club.book(1, 7), 0);
    }

    private static void sentWhileThereIsStock() {
        Check.sentence("if there is STOCK, it is SENT: one less in STOCK");
        BookClub club = Check.clubWith("dun=0,end=0", 3);
        int[] prints = {0, 1, 2, 3, 4, 1000};
        for (int month = 0; month < prints.length; month++) {
            int sent = Math.min(3, prints[month]);
            Check.due("sent of " + prints[month], Check.send(club, 1, prints[month]), sent);
            Check.due("stock then", club.book(month, 2), prints[month] - sent);
            Check.due("short then", club.book(month, 7), 3 - sent);
            for (int member = 0; member < 3; member++) {
                Check.due("sent to " + member, Check.member(club, member, 7), member < sent ? 1 : 0);
            }
        }
    }

    private static void stockOfTheMonthAlone() {
        Check.sentence("if there is STOCK, it is SENT: one less in STOCK");
        BookClub club = Check.clubOf(1);
        Check.send(club, 0, 5);
        Check.due("stock of the month ahead", club.book(0, 2), 4);
        Check.due("sent without a choice", club.close(), 0);
        club.choice(0, 2);
        club.clear(2, 0, 2);
        Check.due("sent when all were sold off", club.close(), 0);
        club.choice(0, 2);
        club.clear(3, 1, 1);
        Check.due("sent when one is left", club.close(), 1);
    }

    private static void volumeAboveZero() {
        Check.sentence("an ENTRY VOLUME of PRICE (if above 0), BOUGHT is one more");
        int[] prices = {0, 1, 5000};
        for (int price : prices) {
            BookClub club = Check.clubOf(1);
            Check.due("sent at " + price, Check.send(club, price, 1), 1);
            Check.due("entries at " + price, club.count(5), price > 0 ? 1 : 0);
            if (price > 0) {
                Check.entryDue(club, 0, 0, 0, 2, -price);
            }
            Check.due("bought at " + price, Check.member(club, 0, 3), 1);
        }
    }

    private static void bonusAboveZero() {
        Check.sentence("if bonus is above 0 and goes into BOUGHT, an ENTRY BONUS");
        BookClub without = Check.clubWith("part=100", 1);
        Check.send(without, 10, 1);
        Check.due("without the rule", without.count(5), 1);
        BookClub zero = Check.clubWith("bonus=0,part=100", 1);
        Check.send(zero, 10, 1);
        Check.due("bonus 0", zero.count(5), 1);
        BookClub one = Check.clubWith("bonus=1,part=100", 1);
        Check.send(one, 10, 1);
        Check.due("bonus 1", one.count(5), 2);
        Check.entryDue(one, 1, 0, 0, 5, 10);
    }

    private static void bonusGoesIntoBought() {
        Check.sentence("if bonus is above 0 and goes into BOUGHT, an ENTRY BONUS");
        BookClub club = Check.clubWith("bonus=3,part=200,dun=0,end=0", 1);
        int[] due = {-10, -20, -10, -20, -30, -20};
        for (int i = 0; i < due.length; i++) {
            Check.send(club, 10, 1);
            Check.due("bought", Check.member(club, 0, 3), i + 1);
            Check.due("balance with " + (i + 1) + " bought", Check.member(club, 0, 5), due[i]);
        }

        BookClub greater = Check.clubWith("bonus=10000,part=100", 1);
        Check.send(greater, 10, 1);
        Check.due("a bonus above bought", greater.count(5), 1);
    }

    private static void boughtStaysWhenTakenBack() {
        Check.sentence("if bonus is above 0 and goes into BOUGHT, an ENTRY BONUS");
        BookClub club = Check.clubWith("limit=0,bonus=2,part=100", 1);
        club.refuse(0, 1);
        Check.send(club, 10, 1);
        Check.send(club, 8, 1);
        Check.due("bought", Check.member(club, 0, 3), 2);
        Check.due("entries", club.count(5), 4);
        Check.entryDue(club, 3, 0, 1, 5, 8);
    }

    private static void partCutDown() {
        Check.sentence("part of a hundred of PRICE, cut down (if above 0)");
        rewardDue(11, 9, 0);
        rewardDue(12, 9, 1);
        rewardDue(1, 99, 0);
        rewardDue(1, 100, 1);
        rewardDue(199, 50, 99);
        rewardDue(100, 0, 0);
        rewardDue(0, 100, 0);
        rewardDue(5000, 10000, 500000);
        BookClub club = Check.clubWith("bonus=1", 1);
        Check.send(club, 9, 1);
        Check.entryDue(club, 1, 0, 0, 5, 4);
    }

    private static void rewardDue(int price, int part, int reward) {
        BookClub club = Check.clubWith("bonus=1,part=" + part, 1);
        Check.send(club, price, 1);
        String what = part + " of a hundred of " + price;
        int before = price > 0 ? 1 : 0;
        Check.due(what + ": entries", club.count(5), before + (reward > 0 ? 1 : 0));
        if (reward > 0) {
            Check.entryDue(club, before, 0, 0, 5, reward);
        }
    }

    private static void shortWithoutStock() {
        Check.sentence("Without STOCK it is SHORT");
        BookClub club = Check.clubWith("bonus=1,part=100", 2);
        club.refuse(0, 30);
        Check.due("sent", Check.send(club, 10, 0), 0);
        for (int member = 0; member < 2; member++) {
            Check.due("short", Check.member(club, member, 8), 1);
            Check.due("not sent", Check.member(club, member, 7), 0);
            Check.due("nothing bought", Check.member(club, member, 3), 0);
        }
        Check.due("short in all", club.book(0, 7), 2);
        Check.due("entries", club.count(5), 0);
        Check.due("stock is not below 0", club.book(0, 2), 0);
    }

    // ---- 3: owing

    private static void balanceBelowDebtsContrary() {
        Check.sentence("if BALANCE is below debt's contrary, MONTHS OWING is one more");
        int[][] rows = {{0, 0, 0}, {0, 1, 1}, {10, 9, 0}, {10, 10, 0}, {10, 11, 1}, {4999, 5000, 1}, {5000, 5000, 0}};
        for (int[] row : rows) {
            BookClub club = Check.clubWith("debt=" + row[0], 1);
            Check.send(club, row[1], 1);
            Check.due("debt " + row[0] + ", price " + row[1], Check.member(club, 0, 4), row[2]);
        }
    }

    private static void owingNoMore() {
        Check.sentence("else 0 (and DUNNED is IN)");
        BookClub club = Check.clubWith("dun=1,debt=10@1", 1);
        Check.send(club, 10, 1);
        Check.due("dunned", Check.member(club, 0, 2), 1);
        Check.due("owing", Check.member(club, 0, 4), 1);
        Check.due("not sent while dunned", Check.send(club, 10, 1), 0);
        Check.due("in", Check.member(club, 0, 2), 0);
        Check.due("owing no more", Check.member(club, 0, 4), 0);
    }

    private static void dunnedWithDunOrMore() {
        Check.sentence("else with dun or more DUNNED");
        BookClub club = Check.clubWith("dun=2,end=0", 1);
        Check.send(club, 10, 1);
        Check.due("with one less", Check.member(club, 0, 2), 0);
        club.close();
        Check.due("with dun", Check.member(club, 0, 2), 1);
        club.close();
        Check.due("with more", Check.member(club, 0, 2), 1);
        Check.due("months owing", Check.member(club, 0, 4), 3);
        BookClub first = Check.clubOf(1);
        Check.send(first, 10, 1);
        first.close();
        Check.due("without rules, two months", Check.member(first, 0, 2), 0);
        first.close();
        Check.due("without rules, three months", Check.member(first, 0, 2), 1);
    }

    private static void endedWithEndOrMore() {
        Check.sentence("With end or more it is ENDED");
        BookClub club = Check.clubWith("dun=0,end=2", 1);
        Check.send(club, 10, 1);
        Check.due("with one less", Check.member(club, 0, 2), 0);
        club.close();
        Check.due("with end", Check.member(club, 0, 2), 2);
        Check.due("months owing", Check.member(club, 0, 4), 2);
        Check.due("nothing is paid out", club.count(5), 1);
        BookClub first = Check.clubOf(1);
        Check.send(first, 10, 1);
        Check.closeTimes(first, 4);
        Check.due("without rules, five months", Check.member(first, 0, 2), 1);
        first.close();
        Check.due("without rules, six months", Check.member(first, 0, 2), 2);
    }

    private static void endedAheadOfDunned() {
        Check.sentence("With end or more it is ENDED; else with dun or more DUNNED");
        int[][] rows = {{1, 1, 2}, {1, 2, 1}, {2, 1, 2}, {2, 2, 0}};
        for (int[] row : rows) {
            BookClub club = Check.clubWith("dun=" + row[0] + ",end=" + row[1], 1);
            Check.send(club, 10, 1);
            Check.due("dun " + row[0] + ", end " + row[1], Check.member(club, 0, 2), row[2]);
        }
    }

    private static void moreThanDunAndEndWhenTheyFall() {
        Check.sentence("With end or more it is ENDED; else with dun or more DUNNED");
        BookClub club = Check.clubWith("dun=0,end=0,dun=1@3,end=2@4", 1);
        Check.send(club, 10, 1);
        Check.closeTimes(club, 2);
        Check.due("never as yet", Check.member(club, 0, 2), 0);
        club.close();
        Check.due("four months with dun 1", Check.member(club, 0, 2), 1);
        club.close();
        Check.due("five months with end 2", Check.member(club, 0, 2), 2);
    }

    private static void dunnedStaysWhenDunRises() {
        Check.sentence("if BALANCE is below debt's contrary, MONTHS OWING is one more, else 0 (and DUNNED is IN)");
        BookClub club = Check.clubWith("dun=1,end=0,dun=5@1,dun=0@2", 1);
        Check.send(club, 10, 1);
        club.close();
        Check.due("with dun 5", Check.member(club, 0, 2), 1);
        club.close();
        Check.due("with dun 0", Check.member(club, 0, 2), 1);
    }

    private static void endAndDunOfZero() {
        Check.sentence("(end, dun 0: never.)");
        BookClub club = Check.clubWith("dun=0,end=0", 2);
        Check.send(club, 10, 1);
        Check.closeTimes(club, 59);
        Check.due("months owing", Check.member(club, 0, 4), 60);
        Check.due("one that owes", Check.member(club, 0, 2), 0);
        Check.due("one that does not", Check.member(club, 1, 2), 0);
        BookClub dun = Check.clubWith("dun=1,end=0", 1);
        Check.send(dun, 10, 1);
        Check.closeTimes(dun, 9);
        Check.due("end 0 alone", Check.member(dun, 0, 2), 1);
    }

    private static void endedOnesAreNotJudged() {
        Check.sentence("MEMBER by MEMBER, not ENDED");
        BookClub club = Check.clubWith("end=2", 1);
        Check.send(club, 10, 1);
        Check.closeTimes(club, 3);
        Check.due("months owing of an ended one", Check.member(club, 0, 4), 2);
        Check.tell(club, "debt=10");
        club.close();
        Check.due("months owing when it owes no more", Check.member(club, 0, 4), 2);
        Check.due("state", Check.member(club, 0, 2), 2);
    }

    private static void struckEntriesDoNotCount() {
        Check.sentence("BALANCE: the sum of its AMOUNTS (those of STRUCK ones not)");
        BookClub club = Check.clubWith("dun=1", 1);
        Check.send(club, 10, 1);
        club.strike(0);
        Check.due("balance", Check.member(club, 0, 5), 0);
        Check.due("dunned until the month ends", Check.member(club, 0, 2), 1);
        club.close();
        Check.due("in", Check.member(club, 0, 2), 0);
        club.pay(0, 10);
        Check.send(club, 10, 1);
        Check.due("at 0", Check.member(club, 0, 2), 0);
        club.strike(1);
        Check.due("balance without what was paid", Check.member(club, 0, 5), -10);
        club.close();
        Check.due("dunned", Check.member(club, 0, 2), 1);
    }

    private static void judgedBehindSending() {
        Check.sentence("THE MONTH ENDS, in this order");
        BookClub club = Check.clubWith("limit=0,dun=1,debt=5", 1);
        club.refuse(0, 1);
        Check.send(club, 10, 1);
        Check.due("dunned by the volume of the month", Check.member(club, 0, 2), 1);
        Check.due("not sent though it is in behind the third step", Check.send(club, 10, 1), 0);
        Check.due("in by what was taken back", Check.member(club, 0, 2), 0);
    }

    // ---- the next month

    private static void nextMonthWithoutAChoice() {
        Check.sentence("Then it is the next MONTH, without a CHOICE as yet (PRICE 0, nothing PRINTED)");
        BookClub club = Check.clubOf(1);
        Check.send(club, 10, 5);
        Check.due("month", club.count(0), 1);
        for (int what = 0; what <= 7; what++) {
            Check.due("book(1, " + what + ")", club.book(1, what), 0);
        }
        Check.due("the month ahead keeps its price", club.book(0, 0), 10);
        Check.due("the month ahead keeps its print", club.book(0, 1), 5);
    }

    private static void nextMonthWithoutRefusals() {
        Check.sentence("without REFUSALS");
        BookClub club = Check.clubOf(1);
        club.refuse(0, 1);
        Check.due("in time", Check.send(club, 10, 1), 0);
        Check.due("no refusal of the next", Check.member(club, 0, 6), 0);
        Check.due("sent the next", Check.send(club, 10, 1), 1);
        Check.due("it may refuse again", club.refuse(0, 1), 3);
    }
}
