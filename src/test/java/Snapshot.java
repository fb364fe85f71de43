/** All that the reading calls tell of a small club, as one text. */
final class Snapshot {
    private Snapshot() {
    }

    static String of(BookClub club) {
        StringBuilder told = new StringBuilder();
        for (int what = 0; what <= 7; what++) {
            told.append(" count ").append(club.count(what));
        }
        addRules(club, told);
        for (int m = 0; m < club.count(1); m++) {
            for (int what = 0; what <= 8; what++) {
                told.append(what == 0 ? " member " : " ").append(club.member(m, what));
            }
        }
        for (int e = 0; e < club.count(5); e++) {
            for (int what = 0; what <= 4; what++) {
                told.append(what == 0 ? " entry " : " ").append(club.entry(e, what));
            }
        }
        for (int month = 0; month <= club.count(0); month++) {
            for (int what = 0; what <= 7; what++) {
                told.append(what == 0 ? " book " : " ").append(club.book(month, what));
            }
        }
        addChancesAndMiddles(club, told);
        return told.toString();
    }

    private static void addRules(BookClub club, StringBuilder told) {
        told.append(" fault ").append(club.fault(0)).append(" at ").append(club.fault(1));
        for (int name = 0; name <= 7; name++) {
            told.append(" rule ").append(club.rule(name, 0)).append(" later ").append(club.rule(name, 60));
        }
    }

    private static void addChancesAndMiddles(BookClub club, StringBuilder told) {
        for (int kind = 0; kind <= 3; kind++) {
            told.append(" chance ").append(club.ways(1, kind, 1));
        }
        for (int book = 0; book <= 19; book++) {
            told.append(book == 0 ? " middles " : " ").append(club.middle(book));
        }
        told.append(" winner ").append(club.winner());
    }
}
