/** Terms 3 and promises 25 to 28: a test for each sentence on judges that names a boundary case. */
public final class JudgesEdgesTest {
    public static void main(String[] args) {
        everyJudgeAndBook();
        marksUpToTen();
        refusedMarks();
        noMarkInsteadOfOne();
        refusedMarksChangeNothing();
        kinDoNotCount();
        kinNoMore();
        kinOfThatBookAlone();
        refusedKin();
        middleOfEveryNumber();
        middleOfEqualMarks();
        middleOfNoSuchBook();
        middleWhenNoMarkCounts();
        winnerWithoutAny();
        winnerWithTheGreatestMiddle();
        winnerAtZero();
        winnerByMarksAbove();
        winnerByMarksBelow();
        winnerByMarksThatCount();
        winnerByTheLeastNumber();
        Check.finish();
    }

    // ---- marks

    private static void everyJudgeAndBook() {
        Check.sentence("JUDGES 0 .. 8, BOOKS 0 .. 19: MARKS 0 .. 10");
        BookClub club = new BookClub();
        for (int book = 0; book <= 19; book++) {
            for (int judge = 0; judge <= 8; judge++) {
                Check.due("mark(" + judge + ", " + book + ")", club.mark(judge, book, (judge + book) % 11), true);
            }
        }
        int[] due = {4, 5, 6, 6, 6, 6, 6, 4, 4, 4, 4, 4, 5, 6, 6, 6, 6, 6, 4, 4};
        for (int book = 0; book <= 19; book++) {
            Check.due("middle(" + book + ")", club.middle(book), due[book]);
        }
    }

    private static void marksUpToTen() {
        Check.sentence("A MARK (0 .. 10), or none (NONE): true");
        BookClub club = new BookClub();
        for (int v = 0; v <= 10; v++) {
            Check.due("mark(8, 19, " + v + ")", club.mark(8, 19, v), true);
            Check.due("instead of the one before", club.middle(19), v);
        }
    }

    private static void refusedMarks() {
        Check.sentence("Refused: no such JUDGE, BOOK, MARK");
        BookClub club = new BookClub();
        for (int judge : Check.outside(0, 8)) {
            Check.due("mark(" + judge + ", 0, 1)", club.mark(judge, 0, 1), false);
            Check.due("mark(" + judge + ", 19, 1)", club.mark(judge, 19, 1), false);
            Check.due("mark(" + judge + ", 0, NONE)", club.mark(judge, 0, BookClub.NONE), false);
        }
        for (int book : Check.outside(0, 19)) {
            Check.due("mark(0, " + book + ", 1)", club.mark(0, book, 1), false);
            Check.due("mark(8, " + book + ", 1)", club.mark(8, book, 1), false);
        }
        for (int v : Check.outside(BookClub.NONE, 10)) {
            Check.due("mark(0, 0, " + v + ")", club.mark(0, 0, v), false);
        }
        Check.due("no book has a mark", club.winner(), -1);
    }

    private static void noMarkInsteadOfOne() {
        Check.sentence("A MARK (0 .. 10), or none (NONE): true");
        BookClub club = new BookClub();
        Check.due("none where there is none", club.mark(0, 0, BookClub.NONE), true);
        club.mark(0, 0, 0);
        Check.due("a mark of 0", club.middle(0), 0);
        Check.due("none instead of it", club.mark(0, 0, BookClub.NONE), true);
        Check.due("no mark is left", club.middle(0), -1);
        Check.due("no winner", club.winner(), -1);
    }

    private static void refusedMarksChangeNothing() {
        Check.sentence("Refused: no such JUDGE, BOOK, MARK");
        BookClub club = new BookClub();
        give(club, 0, 4);
        give(club, 1, 6);
        Check.due("mark(0, 0, 11)", club.mark(0, 0, 11), false);
        Check.due("mark(0, 0, -2)", club.mark(0, 0, -2), false);
        Check.due("mark(0, 20, 9)", club.mark(0, 20, 9), false);
        Check.due("mark(1, -19, 9)", club.mark(1, -19, 9), false);
        Check.due("mark(-1, 20, 9)", club.mark(-1, 20, 9), false);
        Check.due("middle(0)", club.middle(0), 4);
        Check.due("middle(1)", club.middle(1), 6);
    }

    // ---- kin

    private static void kinDoNotCount() {
        Check.sentence("some KIN (their MARKS don't count)");
        BookClub club = new BookClub();
        give(club, 4, 2, 6, 9);
        Check.due("kin(8, 4, true), without a mark", club.kin(8, 4, true), true);
        Check.due("middle", club.middle(4), 6);
        Check.due("kin(1, 4, true)", club.kin(1, 4, true), true);
        Check.due("middle of the others", club.middle(4), 2);
        Check.due("a mark of kin is taken", club.mark(1, 4, 10), true);
        Check.due("it does not count", club.middle(4), 2);
        club.kin(0, 4, true);
        Check.due("middle of the last", club.middle(4), 9);
        club.kin(2, 4, true);
        Check.due("none counts", club.middle(4), -1);
    }

    private static void kinNoMore() {
        Check.sentence("A JUDGE is KIN of a BOOK's writer, or not: true");
        BookClub club = new BookClub();
        give(club, 4, 2);
        Check.due("not kin already", club.kin(0, 4, false), true);
        Check.due("middle", club.middle(4), 2);
        Check.due("kin", club.kin(0, 4, true), true);
        Check.due("kin again", club.kin(0, 4, true), true);
        Check.due("none counts", club.middle(4), -1);
        Check.due("kin no more", club.kin(0, 4, false), true);
        Check.due("its mark counts again", club.middle(4), 2);
    }

    private static void kinOfThatBookAlone() {
        Check.sentence("A JUDGE is KIN of a BOOK's writer, or not: true");
        BookClub club = new BookClub();
        give(club, 0, 2, 3);
        give(club, 19, 4, 5);
        club.kin(0, 19, true);
        Check.due("that judge, another book", club.middle(0), 2);
        Check.due("that book, another judge", club.middle(19), 5);
    }

    private static void refusedKin() {
        Check.sentence("Refused: none such");
        BookClub club = new BookClub();
        for (int book = 0; book <= 19; book++) {
            give(club, book, 1, 1, 1, 1, 1, 1, 1, 1, 1);
        }
        for (int judge : Check.outside(0, 8)) {
            Check.due("kin(" + judge + ", 0, true)", club.kin(judge, 0, true), false);
            Check.due("kin(" + judge + ", 19, false)", club.kin(judge, 19, false), false);
        }
        for (int book : Check.outside(0, 19)) {
            Check.due("kin(0, " + book + ", true)", club.kin(0, book, true), false);
            Check.due("kin(8, " + book + ", true)", club.kin(8, book, true), false);
        }
        for (int book = 0; book <= 19; book++) {
            for (int judge = 0; judge <= 7; judge++) {
                club.mark(judge, book, BookClub.NONE);
            }
            Check.due("judge 8 counts for book " + book, club.middle(book), 1);
        }
    }

    // ---- middle

    private static void middleOfEveryNumber() {
        Check.sentence("that at place (how many - 1) / 2 (cut), from 0 on");
        int[] marks = {8, 1, 9, 3, 7, 2, 6, 5, 10};
        int[] due = {8, 1, 8, 3, 7, 3, 6, 5, 6};
        BookClub club = new BookClub();
        for (int judge = 0; judge <= 8; judge++) {
            club.mark(judge, 0, marks[judge]);
            Check.due("middle of " + (judge + 1), club.middle(0), due[judge]);
        }
    }

    private static void middleOfEqualMarks() {
        Check.sentence("of its MARKS that count, ascending");
        BookClub club = new BookClub();
        give(club, 0, 0, 0, 0, 0, 0, 0, 0, 0, 0);
        Check.due("all 0", club.middle(0), 0);
        give(club, 1, 10, 10, 10, 10, 10, 10, 10, 10, 10);
        Check.due("all 10", club.middle(1), 10);
        give(club, 2, 10, 0, 10, 0);
        Check.due("two of 0, two of 10", club.middle(2), 0);
        give(club, 3, 10, 0, 10);
        Check.due("one of 0, two of 10", club.middle(3), 10);
    }

    private static void middleOfNoSuchBook() {
        Check.sentence("NONE: no such BOOK, no MARK counts");
        BookClub club = new BookClub();
        for (int book = 0; book <= 19; book++) {
            give(club, book, 5, 5);
        }
        for (int book : Check.outside(0, 19)) {
            Check.due("middle(" + book + ")", club.middle(book), -1);
        }
    }

    private static void middleWhenNoMarkCounts() {
        Check.sentence("NONE: no such BOOK, no MARK counts");
        BookClub club = new BookClub();
        Check.due("no mark", club.middle(19), -1);
        give(club, 19, 7);
        club.kin(0, 19, true);
        Check.due("marks of kin alone", club.middle(19), -1);
    }

    // ---- winner

    private static void winnerWithoutAny() {
        Check.sentence("NONE without any");
        BookClub club = new BookClub();
        Check.due("no marks", club.winner(), -1);
        give(club, 3, 7);
        club.kin(0, 3, true);
        Check.due("marks of kin alone", club.winner(), -1);
        club.kin(0, 3, false);
        Check.due("one mark", club.winner(), 3);
    }

    private static void winnerWithTheGreatestMiddle() {
        Check.sentence("The BOOK with the greatest MIDDLE");
        BookClub club = new BookClub();
        give(club, 19, 4);
        Check.due("the last book alone", club.winner(), 19);
        give(club, 0, 3, 3, 10, 10);
        Check.due("not by marks above", club.winner(), 19);
        give(club, 7, 0, 0, 5, 5, 5);
        Check.due("nor by marks below", club.winner(), 7);
        give(club, 0, 10, 10, 10, 10);
        Check.due("the first book", club.winner(), 0);
    }

    private static void winnerAtZero() {
        Check.sentence("The BOOK with the greatest MIDDLE");
        BookClub club = new BookClub();
        give(club, 8, 0, 0);
        Check.due("a middle of 0 is one", club.winner(), 8);
        give(club, 9, 0, 0, 4);
        Check.due("one above 0", club.winner(), 9);
        give(club, 2, 0);
        Check.due("none above 0", club.winner(), 9);
    }

    private static void winnerByMarksAbove() {
        Check.sentence("of equal ones the one with more MARKS that are above it less those below it (that count)");
        BookClub club = new BookClub();
        give(club, 2, 5, 5, 5);
        give(club, 6, 5, 5, 6);
        Check.due("one above", club.winner(), 6);
        give(club, 9, 0, 5, 5, 6, 6);
        Check.due("two above less one below is no more than one", club.winner(), 6);
        give(club, 12, 5, 5, 10, 10);
        Check.due("two above", club.winner(), 12);
        give(club, 13, 5, 5, 5, 5, 5, 10, 10, 10, 10);
        Check.due("four above", club.winner(), 13);
    }

    private static void winnerByMarksBelow() {
        Check.sentence("of equal ones the one with more MARKS that are above it less those below it (that count)");
        BookClub club = new BookClub();
        give(club, 1, 0, 1, 5, 5, 5);
        Check.due("the only one", club.winner(), 1);
        give(club, 4, 4, 5, 5);
        Check.due("one below is more than two below", club.winner(), 4);
        give(club, 7, 5);
        Check.due("none below is more than one below", club.winner(), 7);
    }

    private static void winnerByMarksThatCount() {
        Check.sentence("of equal ones the one with more MARKS that are above it less those below it (that count)");
        BookClub club = new BookClub();
        give(club, 3, 5, 5);
        give(club, 5, 5, 5, 9);
        Check.due("one above", club.winner(), 5);
        club.kin(2, 5, true);
        Check.due("the one above does not count", club.winner(), 3);
        give(club, 3, 1, 5, 5);
        Check.due("one below", club.winner(), 5);
        club.kin(0, 3, true);
        Check.due("the one below does not count", club.winner(), 3);
    }

    private static void winnerByTheLeastNumber() {
        Check.sentence("then the least number");
        BookClub club = new BookClub();
        give(club, 19, 7, 7);
        give(club, 18, 7);
        Check.due("18 and 19", club.winner(), 18);
        give(club, 1, 6, 7, 8);
        Check.due("one above and one below are as none", club.winner(), 1);
        give(club, 0, 7, 7, 7, 7, 7, 7, 7, 7, 7);
        Check.due("0 and 1", club.winner(), 0);
    }

    private static void give(BookClub club, int book, int... marks) {
        for (int judge = 0; judge < marks.length; judge++) {
            club.mark(judge, book, marks[judge]);
        }
    }
}
