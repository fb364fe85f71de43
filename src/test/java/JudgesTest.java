/** Promises 25 to 28 in ordinary runs; their boundary cases are in JudgesEdgesTest. */
public final class JudgesTest {
    public static void main(String[] args) {
        middles();
        winnerByMiddle();
        Check.finish();
    }

    private static void middles() {
        markAll("1 of 1", 3, 3);
        markAll("lower of 2", 3, 9, 3);
        markAll("2nd of 3", 5, 9, 5, 1);
        markAll("2nd of 4", 4, 9, 8, 4, 0);
        markAll("5th of 9", 4, 8, 7, 6, 5, 4, 3, 2, 1, 0);
        markAll("4th of 8", 2, 2, 2, 2, 2, 9, 9, 9, 9);
        markAll("all the same", 10, 10, 10, 10, 10, 10, 10, 10, 10, 10);
    }

    private static void markAll(String what, int due, int... marks) {
        BookClub club = new BookClub();
        for (int judge = 0; judge < marks.length; judge++) {
            club.mark(judge, 7, marks[judge]);
        }
        Check.due(what, club.middle(7), due);
    }

    private static void winnerByMiddle() {
        BookClub club = new BookClub();
        Check.due("none", club.winner(), -1);
        club.mark(0, 19, 4);
        Check.due("the only one", club.winner(), 19);
        club.mark(0, 3, 5);
        Check.due("the greater", club.winner(), 3);
        club.mark(0, 11, 6);
        Check.due("the greatest", club.winner(), 11);
        club.kin(0, 11, true);
        Check.due("kin do not count", club.winner(), 3);
        club.mark(1, 3, 0);
        Check.due("middles, not the greatest marks", club.winner(), 19);
    }
}
