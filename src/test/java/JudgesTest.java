/** Promises 25 to 28: marks, kin, middles and the winner. */
public final class JudgesTest {
    public static void main(String[] args) {
        marks();
        kinship();
        middles();
        middleRefuses();
        winnerByMiddle();
        winnerByMarksAboveAndBelow();
        winnerByNumber();
        winnerAtMarksOfNothing();
        Check.finish();
    }

    private static void marks() {
        BookClub club = new BookClub();
        Check.due("mark(-1, 0, 1)", club.mark(-1, 0, 1), false);
        Check.due("mark(9, 0, 1)", club.mark(9, 0, 1), false);
        Check.due("mark(0, -1, 1)", club.mark(0, -1, 1), false);
        Check.due("mark(0, 20, 1)", club.mark(0, 20, 1), false);
        Check.due("mark(0, 0, -2)", club.mark(0, 0, -2), false);
        Check.due("mark(0, 0, 11)", club.mark(0, 0, 11), false);
        for (int book = 0; book < 20; book++) {
            Check.due("no mark as yet", club.middle(book), -1);
        }
        Check.due("mark(8, 19, 10)", club.mark(8, 19, 10), true);
        Check.due("the greatest", club.middle(19), 10);
        Check.due("mark(8, 19, 0)", club.mark(8, 19, 0), true);
        Check.due("another instead", club.middle(19), 0);
        Check.due("mark(8, 19, 12)", club.mark(8, 19, 12), false);
        Check.due("the mark stays", club.middle(19), 0);
        Check.due("no mark", club.mark(8, 19, BookClub.NONE), true);
        Check.due("none is left", club.middle(19), -1);
        Check.due("no mark where there is none", club.mark(0, 0, BookClub.NONE), true);
    }

    private static void kinship() {
        BookClub club = new BookClub();
        Check.due("kin(-1, 0, true)", club.kin(-1, 0, true), false);
        Check.due("kin(9, 0, true)", club.kin(9, 0, true), false);
        Check.due("kin(0, -1, true)", club.kin(0, -1, true), false);
        Check.due("kin(0, 20, true)", club.kin(0, 20, true), false);
        club.mark(3, 4, 6);
        club.mark(3, 5, 2);
        Check.due("kin(3, 4, true)", club.kin(3, 4, true), true);
        Check.due("its mark does not count", club.middle(4), -1);
        Check.due("of another book it does", club.middle(5), 2);
        Check.due("a mark of kin is taken", club.mark(3, 4, 8), true);
        Check.due("it does not count", club.middle(4), -1);
        Check.due("kin(3, 4, false)", club.kin(3, 4, false), true);
        Check.due("it counts", club.middle(4), 8);
        Check.due("kin(8, 19, true)", club.kin(8, 19, true), true);
    }

    private static void middles() {
        markAll("1 of 1", 3, 3);
        markAll("lower of 2", 3, 9, 3);
        markAll("2nd of 3", 5, 9, 5, 1);
        markAll("2nd of 4", 4, 9, 8, 4, 0);
        markAll("5th of 9", 4, 8, 7, 6, 5, 4, 3, 2, 1, 0);
        markAll("4th of 8", 2, 2, 2, 2, 2, 9, 9, 9, 9);
        markAll("all the same", 10, 10, 10, 10, 10, 10, 10, 10, 10, 10);
    }

    private static void markAll(String what, int due, int... marks) {
        BookClub club = new BookClub();
        for (int judge = 0; judge < marks.length; judge++) {
            club.mark(judge, 7, marks[judge]);
        }
        Check.due(what, club.middle(7), due);
    }

    private static void middleRefuses() {
        BookClub club = new BookClub();
        Check.due("middle(-1)", club.middle(-1), -1);
        Check.due("middle(20)", club.middle(20), -1);
        Check.due("middle(least)", club.middle(Integer.MIN_VALUE), -1);
    }

    private static void winnerByMiddle() {
        BookClub club = new BookClub();
        Check.due("none", club.winner(), -1);
        club.mark(0, 19, 4);
        Check.due("the only one", club.winner(), 19);
        club.mark(0, 3, 5);
        Check.due("the greater", club.winner(), 3);
        club.mark(0, 11, 6);
        Check.due("the greatest", club.winner(), 11);
        club.kin(0, 11, true);
        Check.due("kin do not count", club.winner(), 3);
        club.mark(1, 3, 0);
        Check.due("middles, not the greatest marks", club.winner(), 19);
    }

    private static void winnerByMarksAboveAndBelow() {
        BookClub club = new BookClub();
        give(club, 2, 5, 5, 5);
        give(club, 6, 5, 5, 9);
        Check.due("one above", club.winner(), 6);
        give(club, 9, 0, 5, 5, 6, 6);
        Check.due("two above less one below is no more", club.winner(), 6);
        give(club, 12, 5, 5, 6, 6);
        Check.due("two above", club.winner(), 12);
        give(club, 13, 5, 5, 5, 10, 10, 10);
        Check.due("three at the greatest mark", club.winner(), 13);
        club.mark(5, 13, BookClub.NONE);
        club.mark(4, 13, BookClub.NONE);
        Check.due("two above again", club.winner(), 12);
        club.kin(3, 12, true);
        Check.due("only those that count", club.winner(), 6);

        BookClub below = new BookClub();
        give(below, 1, 0, 5, 5);
        give(below, 4, 5);
        Check.due("one below is less than none", below.winner(), 4);
        give(below, 0, 0, 1, 5, 5, 5);
        Check.due("two below are less still", below.winner(), 4);

        BookClub negative = new BookClub();
        give(negative, 1, 0, 1, 5, 5, 5);
        give(negative, 4, 0, 5, 5);
        Check.due("one below is more than two below", negative.winner(), 4);
    }

    private static void winnerByNumber() {
        BookClub club = new BookClub();
        give(club, 14, 7, 7);
        give(club, 5, 7);
        Check.due("the least number", club.winner(), 5);
        give(club, 2, 6, 7, 8);
        Check.due("one above and one below are as none", club.winner(), 2);
        give(club, 0, 7, 7, 7);
        Check.due("those at the middle are neither", club.winner(), 0);
    }

    private static void winnerAtMarksOfNothing() {
        BookClub club = new BookClub();
        give(club, 8, 0, 0);
        Check.due("a mark of 0 is one", club.winner(), 8);
        give(club, 9, 0, 0, 4);
        Check.due("one above 0", club.winner(), 9);
    }

    private static void give(BookClub club, int book, int... marks) {
        for (int judge = 0; judge < marks.length; judge++) {
            club.mark(judge, book, marks[judge]);
        }
    }
}
