import java.nio.charset.StandardCharsets;
import java.util.Arrays;
import java.util.NoSuchElementException;

/** What the tests share: comparing, feeding a text, and calls that may throw. */
final class Check {
    /** Stands for a NoSuchElementException among the answers. */
    static final long THROWS = Long.MIN_VALUE;

    private static int wrong = 0;
    private static String sentence = "";

    private Check() {
    }

    /** The document's words to which the comparisons that follow hold the class: a failure tells them. */
    static void sentence(String words) {
        sentence = "\"" + words + "\": ";
    }

    static void due(String what, long got, long want) {
        if (got != want) {
            wrong++;
            System.out.println(sentence + what + " answered " + show(got) + ", due is " + show(want));
        }
    }

    static void due(String what, String got, String want) {
        if (!got.equals(want)) {
            wrong++;
            System.out.println(sentence + what + " answered\n  " + got + ", due is\n  " + want);
        }
    }

    static void due(String what, boolean got, boolean want) {
        due(what, got ? 1 : 0, want ? 1 : 0);
    }

    static void finish() {
        if (wrong != 0) {
            System.out.println(wrong + " answers are not as due");
            System.exit(1);
        }
    }

    private static String show(long v) {
        return v == THROWS ? "NoSuchElementException" : Long.toString(v);
    }

    static long member(BookClub club, int m, int what) {
        try {
            return club.member(m, what);
        } catch (NoSuchElementException none) {
            return THROWS;
        }
    }

    static long entry(BookClub club, int e, int what) {
        try {
            return club.entry(e, what);
        } catch (NoSuchElementException none) {
            return THROWS;
        }
    }

    static long balance(BookClub club, int member, int month, int known) {
        try {
            return club.balance(member, month, known);
        } catch (NoSuchElementException none) {
            return THROWS;
        }
    }

    /** All that is told of one entry but its striking, in one comparison each. */
    static void entryDue(BookClub club, int e, int member, int month, int sort, long amount) {
        due("entry " + e + "'s member", entry(club, e, 0), member);
        due("entry " + e + "'s month", entry(club, e, 1), month);
        due("entry " + e + "'s sort", entry(club, e, 2), sort);
        due("entry " + e + "'s amount", entry(club, e, 3), amount);
    }

    /** Puts a text of at most 200 bytes on the empty tape. */
    static void tape(BookClub club, String text) {
        byte[] signs = text.getBytes(StandardCharsets.ISO_8859_1);
        byte[] row = Arrays.copyOf(signs, (signs.length + 19) / 20 * 20);
        for (int i = 0; i < row.length; i += 20) {
            club.feed(number(row, i), number(row, i + 4), number(row, i + 8), number(row, i + 12), number(row, i + 16));
        }
        club.end(signs.length);
    }

    static int tell(BookClub club, String text) {
        tape(club, text);
        return club.rules();
    }

    static BookClub clubWith(String text) {
        BookClub club = new BookClub();
        tell(club, text);
        return club;
    }

    /** A club with rules and members of kind 0 in house 0. */
    static BookClub clubWith(String text, int members) {
        BookClub club = clubWith(text);
        joinTimes(club, members);
        return club;
    }

    /** A club without rules. */
    static BookClub clubOf(int members) {
        BookClub club = new BookClub();
        joinTimes(club, members);
        return club;
    }

    private static void joinTimes(BookClub club, int members) {
        for (int i = 0; i < members; i++) {
            club.join(0, 0);
        }
    }

    /** Tells the month's choice and ends the month: how many were sent. */
    static int send(BookClub club, int price, int print) {
        club.choice(price, print);
        return club.close();
    }

    static void closeTimes(BookClub club, int times) {
        for (int i = 0; i < times; i++) {
            club.close();
        }
    }

    /** Refused numbers of every size below and above what is allowed, the ends of int among them. */
    static int[] outside(int least, int most) {
        return new int[] {Integer.MIN_VALUE, -most - 1, least - 1, most + 1, most + 256, Integer.MAX_VALUE};
    }

    private static int number(byte[] row, int at) {
        return (row[at] & 255) << 24 | (row[at + 1] & 255) << 16 | (row[at + 2] & 255) << 8 | row[at + 3] & 255;
    }
}
