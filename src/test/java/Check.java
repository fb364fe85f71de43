import java.nio.charset.StandardCharsets;
import java.util.Arrays;
import java.util.NoSuchElementException;

/** What the tests share: comparing, feeding a text, and calls that may throw. */
final class Check {
    /** Stands for a NoSuchElementException among the answers. */
    static final long THROWS = Long.MIN_VALUE;

    private static int wrong = 0;

    private Check() {
    }

    static void due(String what, long got, long want) {
        if (got != want) {
            wrong++;
            System.out.println(what + " answered " + show(got) + ", due is " + show(want));
        }
    }

    static void due(String what, boolean got, boolean want) {
        due(what, got ? 1 : 0, want ? 1 : 0);
    }

    static void finish() {
        if (wrong != 0) {
            System.out.println(wrong + " answers are not as due");
            System.exit(1);
        }
    }

    private static String show(long v) {
        return v == THROWS ? "NoSuchElementException" : Long.toString(v);
    }

    static long member(BookClub club, int m, int what) {
        try {
            return club.member(m, what);
        } catch (NoSuchElementException none) {
            return THROWS;
        }
    }

    static long entry(BookClub club, int e, int what) {
        try {
            return club.entry(e, what);
        } catch (NoSuchElementException none) {
            return THROWS;
        }
    }

    static long balance(BookClub club, int member, int month, int known) {
        try {
            return club.balance(member, month, known);
        } catch (NoSuchElementException none) {
            return THROWS;
        }
    }

    /** All that is told of one entry but its striking, in one comparison each. */
    static void entryDue(BookClub club, int e, int member, int month, int sort, long amount) {
        due("entry " + e + "'s member", entry(club, e, 0), member);
        due("entry " + e + "'s month", entry(club, e, 1), month);
        due("entry " + e + "'s sort", entry(club, e, 2), sort);
        due("entry " + e + "'s amount", entry(club, e, 3), amount);
    }

    /** Puts a text of at most 200 bytes on the empty tape. */
    static void tape(BookClub club, String text) {
        byte[] signs = text.getBytes(StandardCharsets.ISO_8859_1);
        byte[] row = Arrays.copyOf(signs, (signs.length + 19) / 20 * 20);
        for (int i = 0; i < row.length; i += 20) {
            club.feed(number(row, i), number(row, i + 4), number(row, i + 8), number(row, i + 12), number(row, i + 16));
        }
        club.end(signs.length);
    }

    static int tell(BookClub club, String text) {
        tape(club, text);
        return club.rules();
    }

    static BookClub clubWith(String text) {
        BookClub club = new BookClub();
        tell(club, text);
        return club;
    }

    private static int number(byte[] row, int at) {
        return (row[at] & 255) << 24 | (row[at + 1] & 255) << 16 | (row[at + 2] & 255) << 8 | row[at + 3] & 255;
    }
}
