import java.util.Arrays;
import java.util.Random;

/**
 * Runs of 512 calls by chance (always the same ones) on the class and on the document's words written a second time:
 * each answer must be the same, and all that both tell behind the run. The last are calls beyond the 512th: the
 * document leaves those free, this class answers them all the same.
 * With two numbers: from which run on, and how many (300 from 0 on without).
 */
public final class TwinRunsTest {
    private static final int CALLS = 512;
    private static final int[] EDGES = {Integer.MIN_VALUE, -2, -1, 0, 1, 2, 3, 4, 5, 7, 8, 9, 10, 19, 20, 21, 30, 31,
        39, 40, 59, 60, 61, 99, 100, 101, 899, 900, 1000, 1001, 5000, 5001, 65535, 65536, 100000, 100001,
        Integer.MAX_VALUE};
    private static final String[] PIECES = {"limit", "late", "bonus", "gift", "debt", "dun", "end", "part", "=", "=",
        "0", "5", "60", "61", "10000", "10001", "007", "@", "@", ",", ",", " ", "  ", "x", "limi", "xdun", "rate", "L",
        "-", "\0", "\u00e9", "/", ":", "`", "{", "?", "A", "<", ">", "\t", "+", "-1", "99999999999999999999"};

    private enum Style { MIXED, BUSY, TEXTS, JUDGES, DEBTS }

    private final int run;
    private final Random random;
    private final BookClub club = new BookClub();
    private final PlainClub plain = new PlainClub();
    private int calls = 0;

    private TwinRunsTest(int run) {
        this.run = run;
        // neighbouring seeds give first numbers that are almost alike
        random = new Random(run * 0x9E3779B97F4A7C15L);
    }

    public static void main(String[] args) {
        int first = args.length > 0 ? Integer.parseInt(args[0]) : 0;
        int runs = args.length > 1 ? Integer.parseInt(args[1]) : 300;
        int mostEntries = 0;
        int mostMonths = 0;
        for (int run = first; run < first + runs; run++) {
            TwinRunsTest twins = new TwinRunsTest(run);
            twins.go(Style.values()[run % Style.values().length]);
            mostEntries = Math.max(mostEntries, twins.club.count(5));
            mostMonths = Math.max(mostMonths, twins.club.count(0));
        }
        // else the runs would not come to where calls are refused for want of room
        Check.due("the most entries of a run", mostEntries, 900);
        Check.due("the most months of a run", mostMonths, 60);
        Check.finish();
    }

    private void go(Style style) {
        begin(style);
        while (calls < CALLS) {
            step(style);
        }
        tellAll();
    }

    // ---- the calls on both

    private void ask(String name, int... a) {
        calls++;
        String call = "run " + run + ", call " + calls + ": " + name + Arrays.toString(a);
        Check.due(call, ofClub(name, a), ofPlain(name, a));
    }

    private static long number(boolean is) {
        return is ? 1 : 0;
    }

    private long ofClub(String name, int[] a) {
        return switch (name) {
            case "feed" -> club.feed(a[0], a[1], a[2], a[3], a[4]);
            case "end" -> number(club.end(a[0]));
            case "rules" -> club.rules();
            case "fault" -> club.fault(a[0]);
            case "rule" -> club.rule(a[0], a[1]);
            case "lag" -> number(club.lag(a[0], a[1]));
            case "join" -> club.join(a[0], a[1]);
            case "move" -> number(club.move(a[0], a[1]));
            case "pay" -> club.pay(a[0], a[1]);
            case "leave" -> club.leave(a[0]);
            case "member" -> Check.member(club, a[0], a[1]);
            case "choice" -> club.choice(a[0], a[1]);
            case "refuse" -> club.refuse(a[0], a[1]);
            case "close" -> club.close();
            case "clear" -> club.clear(a[0], a[1], a[2]);
            case "book" -> club.book(a[0], a[1]);
            case "count" -> club.count(a[0]);
            case "entry" -> Check.entry(club, a[0], a[1]);
            case "strike" -> number(club.strike(a[0]));
            case "balance" -> Check.balance(club, a[0], a[1], a[2]);
            case "chance" -> number(club.chance(a[0], a[1]));
            case "ways" -> club.ways(a[0], a[1], a[2]);
            case "print" -> club.print(a[0], a[1], a[2], a[3]);
            case "mark" -> number(club.mark(a[0], a[1], a[2]));
            case "kin" -> number(club.kin(a[0], a[1], a[2] == 1));
            case "middle" -> club.middle(a[0]);
            case "winner" -> club.winner();
            default -> throw new IllegalArgumentException(name);
        };
    }

    private long ofPlain(String name, int[] a) {
        return switch (name) {
            case "feed" -> plain.feed(a);
            case "end" -> plain.end(a[0]);
            case "rules" -> plain.rules();
            case "fault" -> plain.fault(a[0]);
            case "rule" -> plain.rule(a[0], a[1]);
            case "lag" -> plain.lag(a[0], a[1]);
            case "join" -> plain.join(a[0], a[1]);
            case "move" -> plain.move(a[0], a[1]);
            case "pay" -> plain.pay(a[0], a[1]);
            case "leave" -> plain.leave(a[0]);
            case "member" -> plain.member(a[0], a[1]);
            case "choice" -> plain.choice(a[0], a[1]);
            case "refuse" -> plain.refuse(a[0], a[1]);
            case "close" -> plain.close();
            case "clear" -> plain.clear(a[0], a[1], a[2]);
            case "book" -> plain.book(a[0], a[1]);
            case "count" -> plain.count(a[0]);
            case "entry" -> plain.entry(a[0], a[1]);
            case "strike" -> plain.strike(a[0]);
            case "balance" -> plain.balance(a[0], a[1], a[2]);
            case "chance" -> plain.chance(a[0], a[1]);
            case "ways" -> plain.ways(a[0], a[1], a[2]);
            case "print" -> plain.print(a[0], a[1], a[2], a[3]);
            case "mark" -> plain.mark(a[0], a[1], a[2]);
            case "kin" -> plain.kin(a[0], a[1], a[2] == 1);
            case "middle" -> plain.middle(a[0]);
            case "winner" -> plain.winner();
            default -> throw new IllegalArgumentException(name);
        };
    }

    // ---- which calls come

    private int below(int n) {
        return random.nextInt(n);
    }

    /** Mostly one of the first n numbers, at times an edge of any promise. */
    private int about(int n) {
        return below(12) == 0 ? EDGES[below(EDGES.length)] : below(n);
    }

    private void begin(Style style) {
        if (style == Style.BUSY) {
            tell("limit=" + below(30) + ",late=" + below(120) + ",bonus=1,dun=0,end=0,gift=" + below(3));
            for (int i = 36 + below(5); i > 0; i--) {
                ask("join", below(4), below(7));
            }
        }
        if (style == Style.TEXTS && below(2) == 0) {
            fillRules();
        }
        if (style == Style.DEBTS) {
            tell("debt=" + below(60) + ",dun=" + below(4) + ",end=" + below(7) + ",limit=" + below(20));
            for (int i = 1 + below(8); i > 0; i--) {
                ask("join", below(4), below(10));
            }
        }
    }

    private void step(Style style) {
        switch (style) {
            case BUSY: busyStep(); break;
            case TEXTS: textStep(); break;
            case JUDGES: judgesStep(); break;
            case DEBTS: debtStep(); break;
            default: mixedStep(); break;
        }
    }

    /** Months with many entries, up to the last one that there is room for. */
    private void busyStep() {
        if (club.count(5) > 700) {
            fillStep();
            return;
        }
        for (int edge = 699 + below(4); club.count(5) > 660 && club.count(5) < edge;) {
            ask("pay", below(36), 1 + below(50));
        }
        ask("choice", below(3) == 0 ? below(5) : below(300), 20 + below(40));
        for (int i = below(25); i > 0; i--) {
            ask("refuse", about(40), 1 + below(30));
        }
        ask("close");
        readSomething();
    }

    /** Behind the last month that there is room for: payments, and with the last entries whatever makes one. */
    private void fillStep() {
        if (club.count(5) < 898) {
            ask("pay", about(40), 1 + below(50));
            return;
        }
        switch (below(12)) {
            case 0: case 1: ask("join", below(4), below(10)); break;
            case 2: ask("leave", below(40)); break;
            case 3: ask("strike", below(900)); break;
            case 4: ask("close"); break;
            case 5: tell("gift=" + below(2)); break;
            case 6: ask("pay", about(40), 1); break;
            default: readSomething(); break;
        }
    }

    /** Up to sixty rules and beyond, with texts of up to all the bytes that the tape holds. */
    private void fillRules() {
        for (int i = 0; i < 4; i++) {
            tell("dun=3,".repeat(below(33)) + "late=" + "0".repeat(below(9)) + below(9));
            ask("fault", 0);
            ask("fault", 1);
            ask("count", 6);
        }
    }

    private void tapeStep() {
        for (int i = below(12); i > 0; i--) {
            ask("feed", random.nextInt(), random.nextInt(), random.nextInt(), random.nextInt(), random.nextInt());
        }
        ask("end", below(2) == 0 ? 178 + below(5) : about(203));
        ask("feed", 0x6c617465, 0x3d352c20, below(9), about(9), random.nextInt());
        ask("count", 7);
    }

    private void printStep() {
        for (int i = below(8); i > 0; i--) {
            ask("choice", 4999 + below(3), 999 + below(3));
        }
        ask("choice", below(9), below(6));
        ask("clear", club.count(0), below(2), below(6));
    }

    private void debtStep() {
        switch (below(12)) {
            case 0: ask("pay", about(8), 1 + below(150)); break;
            case 1: ask("strike", about(60)); break;
            case 2: ask("refuse", about(8), below(3) == 0 ? 1 : about(33)); break;
            case 3: ask("move", about(8), about(10)); break;
            case 4: ask("lag", about(10), below(2) == 0 ? 0 : about(21)); break;
            case 5: ask(below(4) == 0 ? "leave" : "count", about(8)); break;
            case 6: ask("clear", about(20), below(4) - 1, about(4)); break;
            case 7: ask("balance", about(8), about(30), about(30)); break;
            case 8: if (below(4) == 0) tell(oneRule()); break;
            default: ask("choice", below(90), below(9)); ask("close"); break;
        }
        readSomething();
    }

    private void judgesStep() {
        switch (below(10)) {
            case 0: ask("chance", about(4), about(101)); break;
            case 1: case 2: ask("print", 1 + below(8), about(1 << 2 * (1 + below(8))), about(100), about(100)); break;
            case 3: ask("ways", about(9), about(1 << 2 * (1 + below(8))), about(9)); break;
            case 4: ask("kin", about(9), about(5), below(2)); break;
            case 5: ask("winner"); break;
            case 6: ask("middle", about(6)); break;
            default: ask("mark", about(9), about(5), below(14) - 2); break;
        }
    }

    private void textStep() {
        StringBuilder text = new StringBuilder();
        for (int i = below(6); i > 0; i--) {
            text.append(oneRule()).append(below(9) == 0 ? PIECES[below(PIECES.length)] : ",");
        }
        if (below(2) == 0) {
            text.append(oneRule());
        }
        for (int i = below(3); i > 0 && below(2) == 0; i--) {
            int at = below(text.length() + 1);
            text.insert(at, PIECES[below(PIECES.length)]);
        }
        tell(text.toString());
        ask("fault", about(2));
        ask("fault", 1);
        ask("rule", about(8), about(61));
        ask("count", 6);
    }

    private String oneRule() {
        String blank = below(4) == 0 ? " " : "";
        String rule = PIECES[below(8)] + blank + "=" + blank + (below(2) == 0 ? below(12) : below(12000));
        return below(3) == 0 ? rule + blank + "@" + blank + below(64) : rule;
    }

    /** Puts at most 200 bytes on the tape, cuts it, and reads it. */
    private void tell(String text) {
        ask("end", 0);
        String cut = text.length() > 200 ? text.substring(0, 200) : text;
        for (int at = 0; at < cut.length(); at += 20) {
            int[] five = new int[5];
            for (int i = 0; i < 20; i++) {
                int sign = at + i < cut.length() ? cut.charAt(at + i) : below(256);
                five[i / 4] |= sign << 24 - i % 4 * 8;
            }
            ask("feed", five);
        }
        ask("end", cut.length());
        ask("rules");
    }

    private void mixedStep() {
        switch (below(20)) {
            case 0: tapeStep(); break;
            case 1: printStep(); break;
            case 2: ask("rules"); ask("fault", about(2)); ask("fault", about(2)); break;
            case 3: tell(oneRule()); break;
            case 4: ask("rule", about(8), about(61)); break;
            case 5: case 6: ask("join", about(4), about(10)); break;
            case 7: judgesStep(); break;
            case 8: ask("choice", about(5001), about(1001)); break;
            case 9: ask("choice", about(50), about(9)); break;
            case 10: ask("close"); break;
            case 11: ask("count", about(8)); break;
            case 12: ask("pay", about(20), below(4) == 0 ? 99999 + below(3) : about(100001)); break;
            case 13: ask("refuse", about(20), about(33)); break;
            default: debtStep(); break;
        }
    }

    private void readSomething() {
        switch (below(4)) {
            case 0: ask("member", about(40), about(9)); break;
            case 1: ask("book", about(club.count(0) + 1), about(8)); break;
            case 2: ask("entry", about(club.count(5) + 1), about(5)); break;
            default: ask("count", about(8)); break;
        }
    }

    // ---- all that is told

    private void tellAll() {
        askEach("count", 1, 8);
        askEach("fault", 1, 2);
        askEach("rule", 8, 61);
        askEach("member", club.count(1), 9);
        askEach("entry", club.count(5), 5);
        askEach("book", club.count(0) + 1, 8);
        for (int m = 0; m < club.count(1); m++) {
            ask("balance", m, club.count(0) / 2, club.count(0) / 2);
            ask("balance", m, 60, below(61));
        }
        askEach("middle", 1, 20);
        ask("winner");
        for (int kind = 0; kind < 4; kind++) {
            ask("ways", 1, kind, 1);
        }
    }

    private void askEach(String name, int firsts, int seconds) {
        boolean one = name.equals("count") || name.equals("fault") || name.equals("middle");
        for (int a = 0; a < firsts; a++) {
            for (int b = 0; b < seconds; b++) {
                if (one) {
                    ask(name, b);
                } else {
                    ask(name, a, b);
                }
            }
        }
    }
}
