import java.util.ArrayList;
import java.util.Arrays;
import java.util.NoSuchElementException;

/** A book club: monthly choices, refusals, a ledger, rules as texts, print runs and judges' marks. */
public final class BookClub {
    public static final int NONE = -1;

    private static final long PAYMENT_REFUSED = -1000000000L;
    private static final int LAST_MONTH = 60;
    private static final int BYTES_A_FEED = 20;

    private static final int LIMIT = 0;
    private static final int LATE = 1;
    private static final int BONUS = 2;
    private static final int GIFT = 3;
    private static final int DEBT = 4;
    private static final int DUN = 5;
    private static final int END = 6;
    private static final int PART = 7;
    private static final int RULE_NAMES = 8;

    private static final int IN = 0;
    private static final int DUNNED = 1;
    private static final int ENDED = 2;

    private final Tape tape;
    private final RuleBook ruleBook;
    private final TextReader reader;
    private final Club club;
    private final Chances chances;
    private final Jury jury;

    public BookClub() {
        tape = new Tape();
        ruleBook = new RuleBook();
        reader = new TextReader(tape, ruleBook);
        club = new Club(ruleBook);
        chances = new Chances();
        jury = new Jury();
    }

    // ---- rules

    public int feed(int a, int b, int c, int d, int e) {
        if (!tape.hasRoomFor(BYTES_A_FEED)) {
            return NONE;
        }
        tape.addNumber(a);
        tape.addNumber(b);
        tape.addNumber(c);
        tape.addNumber(d);
        tape.addNumber(e);
        return tape.length;
    }

    public boolean end(int n) {
        return tape.cutTo(n);
    }

    public int rules() {
        int told = reader.readText();
        tape.cutTo(0);
        return told;
    }

    public int fault(int what) {
        switch (what) {
            case 0: return reader.fault;
            case 1: return reader.place;
            default: return NONE;
        }
    }

    public int rule(int name, int month) {
        if (!isWithin(name, 0, RULE_NAMES - 1) || !isWithin(month, 0, LAST_MONTH)) {
            return NONE;
        }
        return ruleBook.inForce(name, month);
    }

    // ---- members

    public boolean lag(int house, int v) {
        return club.setLag(house, v);
    }

    public int join(int kind, int house) {
        return club.admit(kind, house);
    }

    public boolean move(int member, int house) {
        return club.rehouse(club.findMember(member), house);
    }

    public long pay(int member, int v) {
        return club.receive(club.findMember(member), v);
    }

    public long leave(int member) {
        return club.dismiss(club.findMember(member));
    }

    public long member(int m, int what) throws NoSuchElementException {
        Member who = club.findMember(m);
        if (who == null) {
            throw new NoSuchElementException("no such member");
        }
        switch (what) {
            case 0: return who.kind;
            case 1: return who.house;
            case 2: return who.state;
            case 3: return who.bought;
            case 4: return who.monthsOwing;
            case 5: return who.balance;
            case 6: return who.refusalDay;
            case 7: return who.wasSent ? 1 : 0;
            case 8: return who.wasShort ? 1 : 0;
            default: throw new NoSuchElementException("nothing of that number is told of a member");
        }
    }

    // ---- months

    public int choice(int price, int print) {
        return club.tellChoice(price, print);
    }

    public int refuse(int member, int day) {
        return club.takeRefusal(club.findMember(member), day);
    }

    public int close() {
        return club.endMonth();
    }

    public int clear(int month, int what, int n) {
        Choice choice = club.findChoice(month);
        if (choice == null) {
            return NONE;
        }
        return choice.dispose(what, n);
    }

    public int book(int month, int what) {
        Choice choice = club.findChoice(month);
        if (choice == null) {
            return NONE;
        }
        switch (what) {
            case 0: return choice.price;
            case 1: return choice.printed;
            case 2: return choice.stock;
            case 3: return choice.sent;
            case 4: return choice.takenBack;
            case 5: return choice.soldOff;
            case 6: return choice.pulped;
            case 7: return choice.wanting;
            default: return NONE;
        }
    }

    public int count(int what) {
        switch (what) {
            case 0: return club.month;
            case 1: return club.members.size();
            case 2: return club.membersIn(IN);
            case 3: return club.membersIn(DUNNED);
            case 4: return club.membersIn(ENDED);
            case 5: return club.ledger.size();
            case 6: return ruleBook.count;
            case 7: return tape.length;
            default: return NONE;
        }
    }

    // ---- the ledger

    public long entry(int e, int what) throws NoSuchElementException {
        Entry entry = club.ledger.find(e);
        if (entry == null) {
            throw new NoSuchElementException("no such entry");
        }
        switch (what) {
            case 0: return entry.owner.number;
            case 1: return entry.month;
            case 2: return entry.sort;
            case 3: return entry.amount;
            case 4: return entry.struckIn;
            default: throw new NoSuchElementException("nothing of that number is told of an entry");
        }
    }

    public boolean strike(int e) {
        Entry entry = club.ledger.find(e);
        return entry != null && entry.strikeOut(club.month);
    }

    public long balance(int member, int month, int known) throws NoSuchElementException {
        Member who = club.findMember(member);
        if (who == null) {
            throw new NoSuchElementException("no such member");
        }
        if (!isWithin(month, 0, LAST_MONTH) || !isWithin(known, 0, LAST_MONTH)) {
            throw new NoSuchElementException("no such month");
        }
        return club.ledger.sumKnown(who, month, known);
    }

    // ---- chances

    public boolean chance(int kind, int p) {
        return chances.setPercent(kind, p);
    }

    public long ways(int n, int kinds, int k) {
        if (!Chances.isGroup(n, kinds) || !isWithin(k, 0, n)) {
            return NONE;
        }
        chances.countWays(n, kinds);
        return chances.waysOf(k);
    }

    public int print(int n, int kinds, int over, int under) {
        if (!Chances.isGroup(n, kinds) || !Chances.isRate(over) || !Chances.isRate(under)) {
            return NONE;
        }
        chances.countWays(n, kinds);
        return chances.cheapestPrint(n, over, under);
    }

    // ---- judges

    public boolean mark(int judge, int book, int v) {
        return jury.setMark(judge, book, v);
    }

    public boolean kin(int judge, int book, boolean is) {
        return jury.setKin(judge, book, is);
    }

    public int middle(int book) {
        return jury.middleOf(book);
    }

    public int winner() {
        return jury.bestBook();
    }

    private static boolean isWithin(int v, int least, int most) {
        return v >= least && v <= most;
    }

    /** The bytes that have come for the next text. */
    private static final class Tape {
        static final int ROOM = 200;

        private final int[] bytes;
        private int length;

        Tape() {
            bytes = new int[ROOM];
            length = 0;
        }

        boolean hasRoomFor(int n) {
            return length + n <= ROOM;
        }

        void addNumber(int v) {
            for (int shift = 24; shift >= 0; shift -= 8) {
                addByte((v >>> shift) & 255);
            }
        }

        private void addByte(int b) {
            if (length < ROOM) {
                bytes[length] = b;
                length++;
            }
        }

        boolean cutTo(int n) {
            if (!isWithin(n, 0, length)) {
                return false;
            }
            length = n;
            return true;
        }

        /** NONE stands for the end, so that a reader needs no test of its own. */
        int byteAt(int place) {
            return place >= 0 && place < length ? bytes[place] : NONE;
        }
    }

    /** The rules that were told, in the order of telling. */
    private static final class RuleBook {
        static final int ROOM = 60;
        private static final int[] WITHOUT_ANY = {10, 0, 0, 0, 0, 3, 6, 50};

        private final int[] names;
        private final int[] values;
        private final int[] months;
        private int count;
        /** Rules of the text being read: they stand behind the others, but do not count yet. */
        private int proposed;

        RuleBook() {
            names = new int[ROOM];
            values = new int[ROOM];
            months = new int[ROOM];
            count = 0;
            proposed = 0;
        }

        boolean isFull() {
            return count + proposed >= ROOM;
        }

        void propose(int name, int value, int month) {
            if (isFull()) {
                return;
            }
            int at = count + proposed;
            names[at] = name;
            values[at] = value;
            months[at] = month;
            proposed++;
        }

        int acceptProposed() {
            int accepted = proposed;
            count += accepted;
            proposed = 0;
            return accepted;
        }

        void dropProposed() {
            proposed = 0;
        }

        int inForce(int name, int month) {
            int value = isWithin(name, 0, WITHOUT_ANY.length - 1) ? WITHOUT_ANY[name] : 0;
            int since = 0;
            for (int i = 0; i < count && i < ROOM; i++) {
                if (names[i] == name && months[i] <= month && months[i] >= since) {
                    since = months[i];
                    value = values[i];
                }
            }
            return value;
        }
    }

    /** Reads the tape as a text of rules, from left to right, so that the first fault is the first by place. */
    private static final class TextReader {
        private static final int BAD_BYTE = 1;
        private static final int NUMBER_TOO_LARGE = 2;
        private static final int TOO_MANY_RULES = 3;
        private static final int GREATEST_VALUE = 10000;

        private final Tape tape;
        private final RuleBook ruleBook;
        private int at;
        private int fault;
        private int place;

        TextReader(Tape tape, RuleBook ruleBook) {
            this.tape = tape;
            this.ruleBook = ruleBook;
            at = 0;
            fault = 0;
            place = 0;
        }

        int readText() {
            at = 0;
            fault = 0;
            place = 0;
            boolean more = true;
            for (int i = 0; more && i <= Tape.ROOM; i++) {
                more = readStatement() && readComma();
            }
            if (fault != 0) {
                ruleBook.dropProposed();
                return NONE;
            }
            return ruleBook.acceptProposed();
        }

        private boolean readStatement() {
            int name = readName();
            if (name == NONE || !readEquals()) {
                return false;
            }
            int value = readNumber(GREATEST_VALUE);
            if (value == NONE) {
                return false;
            }
            int month = readMonth();
            if (month == NONE) {
                return false;
            }
            ruleBook.propose(name, value, month);
            return true;
        }

        /** Answers whether another statement must follow. */
        private boolean readComma() {
            int next = nextSign();
            if (next == NONE) {
                return false;
            }
            if (next != ',') {
                return fail(BAD_BYTE, at);
            }
            at++;
            return true;
        }

        private int readName() {
            nextSign();
            int first = at;
            while (at < Tape.ROOM && isWithin(tape.byteAt(at), 'a', 'z')) {
                at++;
            }
            int name = nameBetween(first, at);
            if (name == NONE) {
                fail(BAD_BYTE, first);
                return NONE;
            }
            if (ruleBook.isFull()) {
                fail(TOO_MANY_RULES, first);
                return NONE;
            }
            return name;
        }

        private boolean readEquals() {
            if (nextSign() != '=') {
                return fail(BAD_BYTE, at);
            }
            at++;
            return true;
        }

        private int readMonth() {
            if (nextSign() != '@') {
                return 0;
            }
            at++;
            return readNumber(LAST_MONTH);
        }

        private int readNumber(int greatest) {
            if (!isWithin(nextSign(), '0', '9')) {
                fail(BAD_BYTE, at);
                return NONE;
            }
            int first = at;
            int value = 0;
            while (at < Tape.ROOM && isWithin(tape.byteAt(at), '0', '9')) {
                // a number that is too large already grows no more: two hundred digits would overflow
                if (value <= greatest) {
                    value = value * 10 + (tape.byteAt(at) - '0');
                }
                at++;
            }
            if (value > greatest) {
                fail(NUMBER_TOO_LARGE, first);
                return NONE;
            }
            return value;
        }

        /** The byte behind any blanks, or NONE for the end; the place is then its own. */
        private int nextSign() {
            while (at < Tape.ROOM && tape.byteAt(at) == ' ') {
                at++;
            }
            return tape.byteAt(at);
        }

        private int nameBetween(int first, int behind) {
            for (int name = 0; name < RULE_NAMES; name++) {
                if (standsBetween(wordOf(name), first, behind)) {
                    return name;
                }
            }
            return NONE;
        }

        private boolean standsBetween(String word, int first, int behind) {
            if (word.length() != behind - first) {
                return false;
            }
            for (int i = 0; i < word.length(); i++) {
                if (word.charAt(i) != tape.byteAt(first + i)) {
                    return false;
                }
            }
            return true;
        }

        private static String wordOf(int name) {
            switch (name) {
                case LIMIT: return "limit";
                case LATE: return "late";
                case BONUS: return "bonus";
                case GIFT: return "gift";
                case DEBT: return "debt";
                case DUN: return "dun";
                case END: return "end";
                default: return "part";
            }
        }

        private boolean fail(int kind, int where) {
            fault = kind;
            place = where;
            return false;
        }
    }

    private static final class Member {
        private final int number;
        private final int kind;
        private int house;
        private int state;
        private int bought;
        private int monthsOwing;
        private long balance;
        /** The day on which the refusal of this month's choice comes, 0 without one. */
        private int refusalDay;
        private boolean wasSent;
        private boolean wasShort;
        /** It was sent the latest choice although it had refused it: too late, so the volume comes back. */
        private boolean sendsBack;

        Member(int number, int kind, int house) {
            this.number = number;
            this.kind = kind;
            this.house = house;
            state = IN;
        }

        boolean refusedInTime(int limit) {
            return refusalDay > 0 && refusalDay <= limit;
        }

        void forgetLatestChoice() {
            wasSent = false;
            wasShort = false;
            sendsBack = false;
        }

        boolean owesMoreThan(int debt) {
            return balance < -debt;
        }

        void owesNoLonger() {
            monthsOwing = 0;
            if (state == DUNNED) {
                state = IN;
            }
        }
    }

    /** One month's book. */
    private static final class Choice {
        private static final int GREATEST_PRICE = 5000;
        private static final int PRINT_AT_ONCE = 1000;
        private static final int PRINT_IN_ALL = 5000;

        private int price;
        private int printed;
        private int stock;
        private int sent;
        private int takenBack;
        private int soldOff;
        private int pulped;
        private int wanting;

        int tell(int newPrice, int more) {
            if (!isWithin(newPrice, 0, GREATEST_PRICE) || !isWithin(more, 0, PRINT_AT_ONCE)
                    || printed + more > PRINT_IN_ALL) {
                return NONE;
            }
            price = newPrice;
            printed += more;
            stock += more;
            return stock;
        }

        int dispose(int what, int n) {
            if (!isWithin(what, 0, 1) || !isWithin(n, 0, stock)) {
                return NONE;
            }
            if (what == 0) {
                soldOff += n;
            } else {
                pulped += n;
            }
            stock -= n;
            return stock;
        }

        void takeOut() {
            stock--;
            sent++;
        }

        void putBack() {
            stock++;
            takenBack++;
        }

        int percentOfPrice(int percent) {
            return price * percent / 100;
        }
    }

    private static final class Entry {
        private final Member owner;
        private final int month;
        private final int sort;
        private final long amount;
        private int struckIn;

        Entry(Member owner, int month, int sort, long amount) {
            this.owner = owner;
            this.month = month;
            this.sort = sort;
            this.amount = amount;
            struckIn = NONE;
        }

        boolean strikeOut(int now) {
            if (struckIn != NONE) {
                return false;
            }
            struckIn = now;
            owner.balance -= amount;
            return true;
        }

        boolean isStruckBy(int known) {
            return struckIn != NONE && struckIn <= known;
        }
    }

    private static final class Ledger {
        static final int GIVEN = 0;
        static final int PAID = 1;
        static final int VOLUME = 2;
        static final int TAKEN_BACK = 3;
        static final int FINE = 4;
        static final int REWARD = 5;
        static final int PAID_OUT = 6;

        private static final int ROOM = 900;

        private final ArrayList<Entry> entries;

        Ledger() {
            entries = new ArrayList<>();
        }

        int size() {
            return entries.size();
        }

        int roomLeft() {
            return ROOM - entries.size();
        }

        Entry find(int e) {
            return isWithin(e, 0, entries.size() - 1) ? entries.get(e) : null;
        }

        /** What comes to nothing is no entry. */
        void write(Member owner, int month, int sort, long amount) {
            if (amount == 0 || entries.size() >= ROOM) {
                return;
            }
            entries.add(new Entry(owner, month, sort, amount));
            owner.balance += amount;
        }

        long sumKnown(Member owner, int month, int known) {
            long sum = 0;
            for (int i = 0; i < entries.size(); i++) {
                Entry entry = entries.get(i);
                if (entry.owner.number == owner.number && entry.month <= month && !entry.isStruckBy(known)) {
                    sum += entry.amount;
                }
            }
            return sum;
        }
    }

    /** Houses, members and their months. */
    private static final class Club {
        private static final int HOUSES = 10;
        private static final int FIRST_LAG = 2;
        private static final int GREATEST_LAG = 20;
        private static final int MEMBER_ROOM = 40;
        private static final int GREATEST_PAYMENT = 100000;
        private static final int LAST_DAY = 30;
        private static final int ENTRIES_FOR_A_MONTH = 200;

        private final RuleBook ruleBook;
        private final int[] lags;
        private final boolean[] hadGift;
        private final ArrayList<Member> members;
        private final ArrayList<Choice> choices;
        private final Ledger ledger;
        private Choice choiceNow;
        private int month;

        Club(RuleBook ruleBook) {
            this.ruleBook = ruleBook;
            lags = new int[HOUSES];
            Arrays.fill(lags, FIRST_LAG);
            hadGift = new boolean[HOUSES];
            members = new ArrayList<>();
            choices = new ArrayList<>();
            ledger = new Ledger();
            choiceNow = new Choice();
            choices.add(choiceNow);
            month = 0;
        }

        Member findMember(int m) {
            return isWithin(m, 0, members.size() - 1) ? members.get(m) : null;
        }

        Choice findChoice(int ofMonth) {
            return isWithin(ofMonth, 0, choices.size() - 1) ? choices.get(ofMonth) : null;
        }

        int membersIn(int state) {
            int found = 0;
            for (int i = 0; i < members.size(); i++) {
                if (members.get(i).state == state) {
                    found++;
                }
            }
            return found;
        }

        boolean setLag(int house, int days) {
            if (!isHouse(house) || !isWithin(days, 0, GREATEST_LAG)) {
                return false;
            }
            lags[house] = days;
            return true;
        }

        int admit(int kind, int house) {
            if (!Chances.isKind(kind) || !isHouse(house) || members.size() >= MEMBER_ROOM) {
                return NONE;
            }
            int gift = hadGift[house] ? 0 : inForceNow(GIFT);
            if (gift > 0 && ledger.roomLeft() < 1) {
                return NONE;
            }
            Member who = new Member(members.size(), kind, house);
            members.add(who);
            if (gift > 0) {
                hadGift[house] = true;
                write(who, Ledger.GIVEN, gift);
            }
            return who.number;
        }

        boolean rehouse(Member who, int house) {
            if (who == null || who.state == ENDED || !isHouse(house)) {
                return false;
            }
            who.house = house;
            return true;
        }

        long receive(Member who, int v) {
            if (who == null || !isWithin(v, 1, GREATEST_PAYMENT) || ledger.roomLeft() < 1) {
                return PAYMENT_REFUSED;
            }
            write(who, Ledger.PAID, v);
            if (!who.owesMoreThan(inForceNow(DEBT))) {
                who.owesNoLonger();
            }
            return who.balance;
        }

        long dismiss(Member who) {
            if (who == null || who.state == ENDED) {
                return NONE;
            }
            long due = who.balance > 0 ? who.balance : 0;
            if (due > 0 && ledger.roomLeft() < 1) {
                return NONE;
            }
            who.state = ENDED;
            write(who, Ledger.PAID_OUT, -due);
            return due;
        }

        int tellChoice(int price, int print) {
            return choiceNow.tell(price, print);
        }

        int takeRefusal(Member who, int day) {
            if (who == null || who.state == ENDED || who.refusalDay > 0 || !isWithin(day, 1, LAST_DAY)) {
                return NONE;
            }
            who.refusalDay = day + lagOf(who.house);
            return who.refusalDay;
        }

        int endMonth() {
            if (month >= LAST_MONTH || ledger.roomLeft() < ENTRIES_FOR_A_MONTH) {
                return NONE;
            }
            takeBackRefused();
            sendChoice();
            int sent = choiceNow.sent;
            judgeDebts();
            beginNextMonth();
            return sent;
        }

        private void takeBackRefused() {
            Choice before = findChoice(month - 1);
            if (before == null) {
                return;
            }
            int fine = before.percentOfPrice(inForceNow(LATE));
            for (int i = 0; i < members.size(); i++) {
                Member who = members.get(i);
                if (who.sendsBack) {
                    before.putBack();
                    write(who, Ledger.TAKEN_BACK, before.price);
                    write(who, Ledger.FINE, -fine);
                }
            }
        }

        private void sendChoice() {
            int limit = inForceNow(LIMIT);
            int bonusEach = inForceNow(BONUS);
            int reward = choiceNow.percentOfPrice(inForceNow(PART));
            for (int i = 0; i < members.size(); i++) {
                Member who = members.get(i);
                who.forgetLatestChoice();
                if (who.state == IN && !who.refusedInTime(limit)) {
                    sendTo(who, bonusEach, reward);
                }
            }
        }

        private void sendTo(Member who, int bonusEach, int reward) {
            if (choiceNow.stock <= 0) {
                choiceNow.wanting++;
                who.wasShort = true;
                return;
            }
            choiceNow.takeOut();
            who.wasSent = true;
            who.sendsBack = who.refusalDay > 0;
            who.bought++;
            write(who, Ledger.VOLUME, -choiceNow.price);
            if (bonusEach > 0 && who.bought % bonusEach == 0) {
                write(who, Ledger.REWARD, reward);
            }
        }

        private void judgeDebts() {
            int debt = inForceNow(DEBT);
            int dun = inForceNow(DUN);
            int end = inForceNow(END);
            for (int i = 0; i < members.size(); i++) {
                Member who = members.get(i);
                if (who.state != ENDED) {
                    judgeDebt(who, debt, dun, end);
                }
            }
        }

        private static void judgeDebt(Member who, int debt, int dun, int end) {
            if (who.owesMoreThan(debt)) {
                who.monthsOwing++;
            } else {
                who.owesNoLonger();
            }
            if (end > 0 && who.monthsOwing >= end) {
                who.state = ENDED;
            } else if (dun > 0 && who.monthsOwing >= dun) {
                who.state = DUNNED;
            }
        }

        private void beginNextMonth() {
            month++;
            choiceNow = new Choice();
            choices.add(choiceNow);
            for (int i = 0; i < members.size(); i++) {
                members.get(i).refusalDay = 0;
            }
        }

        private int inForceNow(int name) {
            return ruleBook.inForce(name, month);
        }

        private void write(Member who, int sort, long amount) {
            ledger.write(who, month, sort, amount);
        }

        private int lagOf(int house) {
            return isHouse(house) ? lags[house] : FIRST_LAG;
        }

        private static boolean isHouse(int house) {
            return isWithin(house, 0, HOUSES - 1);
        }
    }

    /** How many of a group take the choice, counted over 100^n like cases. */
    private static final class Chances {
        private static final int KINDS = 4;
        private static final int GREATEST_GROUP = 8;
        private static final int ALL_CASES = 100;
        private static final int EVEN = 50;
        private static final int GREATEST_RATE = 99;

        private final int[] percents;
        /** One row for all calls: what a run makes is counted. */
        private final long[] ways;

        Chances() {
            percents = new int[KINDS];
            Arrays.fill(percents, EVEN);
            ways = new long[GREATEST_GROUP + 1];
        }

        static boolean isKind(int kind) {
            return isWithin(kind, 0, KINDS - 1);
        }

        static boolean isGroup(int n, int kinds) {
            return isWithin(n, 1, GREATEST_GROUP) && kinds >= 0 && kinds >> (2 * n) == 0;
        }

        static boolean isRate(int rate) {
            return isWithin(rate, 1, GREATEST_RATE);
        }

        boolean setPercent(int kind, int p) {
            if (!isKind(kind) || !isWithin(p, 0, ALL_CASES)) {
                return false;
            }
            percents[kind] = p;
            return true;
        }

        void countWays(int n, int kinds) {
            Arrays.fill(ways, 0L);
            ways[0] = 1;
            for (int i = 0; i < n && i < GREATEST_GROUP; i++) {
                addOne(percents[(kinds >> (2 * i)) & (KINDS - 1)]);
            }
        }

        private void addOne(int takes) {
            int refuses = ALL_CASES - takes;
            for (int k = GREATEST_GROUP; k > 0; k--) {
                ways[k] = ways[k] * refuses + ways[k - 1] * takes;
            }
            ways[0] *= refuses;
        }

        long waysOf(int k) {
            return isWithin(k, 0, GREATEST_GROUP) ? ways[k] : 0;
        }

        int cheapestPrint(int n, int over, int under) {
            int best = 0;
            long least = costOf(0, n, over, under);
            for (int print = 1; print <= n && print <= GREATEST_GROUP; print++) {
                long cost = costOf(print, n, over, under);
                if (cost < least) {
                    least = cost;
                    best = print;
                }
            }
            return best;
        }

        /** At most 8 * 99 * 100^8, which a long still holds. */
        private long costOf(int print, int n, int over, int under) {
            long cost = 0;
            for (int k = 0; k <= n && k <= GREATEST_GROUP; k++) {
                int each = k < print ? (print - k) * over : (k - print) * under;
                cost += ways[k] * each;
            }
            return cost;
        }
    }

    private static final class Jury {
        private static final int JUDGES = 9;
        private static final int BOOKS = 20;
        private static final int GREATEST_MARK = 10;

        private final int[] marks;
        private final boolean[] kinships;
        /** How many marks of each height count for the book looked at last; one row for all calls. */
        private final int[] tally;

        Jury() {
            marks = new int[JUDGES * BOOKS];
            Arrays.fill(marks, NONE);
            kinships = new boolean[JUDGES * BOOKS];
            tally = new int[GREATEST_MARK + 1];
        }

        boolean setMark(int judge, int book, int v) {
            if (!isPair(judge, book) || !isWithin(v, NONE, GREATEST_MARK)) {
                return false;
            }
            marks[placeOf(judge, book)] = v;
            return true;
        }

        boolean setKin(int judge, int book, boolean is) {
            if (!isPair(judge, book)) {
                return false;
            }
            kinships[placeOf(judge, book)] = is;
            return true;
        }

        int middleOf(int book) {
            if (!isBook(book)) {
                return NONE;
            }
            int counting = tallyMarks(book);
            if (counting == 0) {
                return NONE;
            }
            int below = 0;
            for (int mark = 0; mark <= GREATEST_MARK; mark++) {
                below += tally[mark];
                if (below > (counting - 1) / 2) {
                    return mark;
                }
            }
            return NONE;
        }

        int bestBook() {
            int best = NONE;
            int bestMiddle = NONE;
            int bestLead = 0;
            for (int book = 0; book < BOOKS; book++) {
                int middle = middleOf(book);
                int lead = leadOver(middle);
                if (middle > bestMiddle || middle != NONE && middle == bestMiddle && lead > bestLead) {
                    best = book;
                    bestMiddle = middle;
                    bestLead = lead;
                }
            }
            return best;
        }

        private int tallyMarks(int book) {
            Arrays.fill(tally, 0);
            int counting = 0;
            for (int judge = 0; judge < JUDGES; judge++) {
                int mark = marks[placeOf(judge, book)];
                if (isWithin(mark, 0, GREATEST_MARK) && !kinships[placeOf(judge, book)]) {
                    tally[mark]++;
                    counting++;
                }
            }
            return counting;
        }

        /** Of the marks tallied last: those above the middle less those below it. */
        private int leadOver(int middle) {
            int lead = 0;
            for (int mark = 0; mark <= GREATEST_MARK; mark++) {
                if (mark > middle) {
                    lead += tally[mark];
                } else if (mark < middle) {
                    lead -= tally[mark];
                }
            }
            return lead;
        }

        private static int placeOf(int judge, int book) {
            return judge * BOOKS + book;
        }

        private static boolean isPair(int judge, int book) {
            return isWithin(judge, 0, JUDGES - 1) && isBook(book);
        }

        private static boolean isBook(int book) {
            return isWithin(book, 0, BOOKS - 1);
        }
    }
}
