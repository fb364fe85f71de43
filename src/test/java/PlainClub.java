import java.math.BigInteger;
import java.util.ArrayList;
import java.util.Collections;
import java.util.HashMap;
import java.util.HashSet;
import java.util.List;
import java.util.Map;
import java.util.Set;
import java.util.TreeMap;
import java.util.regex.Matcher;
import java.util.regex.Pattern;

/**
 * The document's words a second time, with the whole Java library and no thought of speed: sums are added up anew for
 * each question, ways are counted case by case, texts are cut into tokens first. It is there to be compared with.
 */
final class PlainClub {
    private static final long THROWS = Check.THROWS;
    private static final List<String> NAMES = List.of("limit", "late", "bonus", "gift", "debt", "dun", "end", "part");
    private static final int[] WITHOUT_ANY = {10, 0, 0, 0, 0, 3, 6, 50};
    private static final Pattern TOKEN = Pattern.compile("[a-z]+|[0-9]+|[^ ]", Pattern.DOTALL);

    private static final class Person {
        int kind;
        int house;
        int state;
        int bought;
        int owing;
    }

    private static final class Line {
        int member;
        int month;
        int sort;
        long amount;
        int struck = -1;
    }

    private static final class Book {
        int price;
        int printed;
        int soldOff;
        int pulped;
        final Map<Integer, Integer> refusals = new HashMap<>();
        final Set<Integer> tooLate = new HashSet<>();
        final Set<Integer> sentTo = new HashSet<>();
        final Set<Integer> shortOf = new HashSet<>();
        final Set<Integer> backFrom = new HashSet<>();

        int stock() {
            return printed - sentTo.size() - soldOff - pulped + backFrom.size();
        }
    }

    private final StringBuilder tape = new StringBuilder();
    private final List<int[]> rules = new ArrayList<>();
    private int fault;
    private int place;
    private final int[] lags = {2, 2, 2, 2, 2, 2, 2, 2, 2, 2};
    private final Set<Integer> housesWithGift = new HashSet<>();
    private final List<Person> people = new ArrayList<>();
    private final List<Line> lines = new ArrayList<>();
    private final List<Book> books = new ArrayList<>(List.of(new Book()));
    private final int[] percents = {50, 50, 50, 50};
    private final Map<Integer, Map<Integer, Integer>> marks = new TreeMap<>();
    private final Set<List<Integer>> kin = new HashSet<>();

    private static boolean in(long v, long least, long most) {
        return least <= v && v <= most;
    }

    private static long yes(boolean is) {
        return is ? 1 : 0;
    }

    // ---- rules

    long feed(int[] numbers) {
        if (tape.length() + 20 > 200) {
            return -1;
        }
        for (int number : numbers) {
            for (int i = 3; i >= 0; i--) {
                tape.append((char) (number >> 8 * i & 255));
            }
        }
        return tape.length();
    }

    long end(int n) {
        if (n < 0 || n > tape.length()) {
            return 0;
        }
        tape.setLength(n);
        return 1;
    }

    long rules() {
        List<int[]> told = new ArrayList<>();
        fault = 0;
        place = 0;
        String text = tape.toString();
        tape.setLength(0);
        // what must come: 0 a name, 1 =, 2 a value, 3 @ or a comma, 4 a month, 5 a comma
        int must = 0;
        Matcher token = TOKEN.matcher(text);
        while (fault == 0 && token.find()) {
            place = token.start();
            must = takeToken(must, token.group(), told);
        }
        if (fault == 0 && must != 3 && must != 5) {
            fault = 1;
            place = text.length();
        }
        if (fault != 0) {
            return -1;
        }
        place = 0;
        rules.addAll(told);
        return told.size();
    }

    private int takeToken(int must, String token, List<int[]> told) {
        boolean number = token.matches("[0-9]+");
        if (must == 0 && NAMES.contains(token)) {
            if (rules.size() + told.size() >= 60) {
                fault = 3;
            }
            told.add(new int[] {NAMES.indexOf(token), 0, 0});
            return 1;
        }
        if (must == 1 && token.equals("=")) {
            return 2;
        }
        if ((must == 2 || must == 4) && number) {
            int greatest = must == 2 ? 10000 : 60;
            BigInteger value = new BigInteger(token);
            if (value.compareTo(BigInteger.valueOf(greatest)) > 0) {
                fault = 2;
            }
            told.get(told.size() - 1)[must / 2] = value.intValue();
            return must + 1;
        }
        if (must == 3 && token.equals("@")) {
            return 4;
        }
        if ((must == 3 || must == 5) && token.equals(",")) {
            return 0;
        }
        fault = 1;
        return must;
    }

    long fault(int what) {
        return what == 0 ? fault : what == 1 ? place : -1;
    }

    long rule(int name, int month) {
        if (!in(name, 0, 7) || !in(month, 0, 60)) {
            return -1;
        }
        for (int from = month; from >= 0; from--) {
            for (int i = rules.size() - 1; i >= 0; i--) {
                int[] rule = rules.get(i);
                if (rule[0] == name && rule[2] == from) {
                    return rule[1];
                }
            }
        }
        return WITHOUT_ANY[name];
    }

    private long now(String name) {
        return rule(NAMES.indexOf(name), month());
    }

    private int month() {
        return books.size() - 1;
    }

    // ---- members

    private boolean isMember(int m) {
        return in(m, 0, people.size() - 1);
    }

    private boolean isLive(int m) {
        return isMember(m) && people.get(m).state != 2;
    }

    private void enter(int member, int sort, long amount) {
        Line line = new Line();
        line.member = member;
        line.month = month();
        line.sort = sort;
        line.amount = amount;
        lines.add(line);
    }

    private long balanceNow(int member) {
        return lines.stream().filter(x -> x.member == member && x.struck == -1).mapToLong(x -> x.amount).sum();
    }

    long lag(int house, int v) {
        if (!in(house, 0, 9) || !in(v, 0, 20)) {
            return 0;
        }
        lags[house] = v;
        return 1;
    }

    long join(int kind, int house) {
        if (!in(kind, 0, 3) || !in(house, 0, 9) || people.size() == 40) {
            return -1;
        }
        boolean gift = now("gift") > 0 && !housesWithGift.contains(house);
        if (gift && lines.size() == 900) {
            return -1;
        }
        Person person = new Person();
        person.kind = kind;
        person.house = house;
        people.add(person);
        if (gift) {
            housesWithGift.add(house);
            enter(people.size() - 1, 0, now("gift"));
        }
        return people.size() - 1;
    }

    long move(int member, int house) {
        if (!isLive(member) || !in(house, 0, 9)) {
            return 0;
        }
        people.get(member).house = house;
        return 1;
    }

    long pay(int member, int v) {
        if (!isMember(member) || !in(v, 1, 100000) || lines.size() == 900) {
            return -1000000000;
        }
        enter(member, 1, v);
        long balance = balanceNow(member);
        if (balance >= -now("debt")) {
            settle(people.get(member));
        }
        return balance;
    }

    private static void settle(Person person) {
        person.owing = 0;
        if (person.state == 1) {
            person.state = 0;
        }
    }

    long leave(int member) {
        if (!isLive(member)) {
            return -1;
        }
        long balance = balanceNow(member);
        if (balance > 0 && lines.size() == 900) {
            return -1;
        }
        people.get(member).state = 2;
        if (balance > 0) {
            enter(member, 6, -balance);
            return balance;
        }
        return 0;
    }

    long member(int m, int what) {
        if (!isMember(m)) {
            return THROWS;
        }
        Person person = people.get(m);
        Book latest = month() > 0 ? books.get(month() - 1) : new Book();
        return switch (what) {
            case 0 -> person.kind;
            case 1 -> person.house;
            case 2 -> person.state;
            case 3 -> person.bought;
            case 4 -> person.owing;
            case 5 -> balanceNow(m);
            case 6 -> books.get(month()).refusals.getOrDefault(m, 0);
            case 7 -> yes(latest.sentTo.contains(m));
            case 8 -> yes(latest.shortOf.contains(m));
            default -> THROWS;
        };
    }

    // ---- months

    long choice(int price, int print) {
        Book book = books.get(month());
        if (!in(price, 0, 5000) || !in(print, 0, 1000) || book.printed + print > 5000) {
            return -1;
        }
        book.price = price;
        book.printed += print;
        return book.stock();
    }

    long refuse(int member, int day) {
        Map<Integer, Integer> refusals = books.get(month()).refusals;
        if (!isLive(member) || !in(day, 1, 30) || refusals.containsKey(member)) {
            return -1;
        }
        refusals.put(member, day + lags[people.get(member).house]);
        return refusals.get(member);
    }

    long close() {
        if (month() == 60 || lines.size() > 700) {
            return -1;
        }
        if (month() > 0) {
            takeBack(books.get(month() - 1));
        }
        Book book = books.get(month());
        for (int m = 0; m < people.size(); m++) {
            boolean refused = book.refusals.containsKey(m);
            boolean inTime = refused && book.refusals.get(m) <= now("limit");
            if (refused && !inTime) {
                book.tooLate.add(m);
            }
            if (people.get(m).state == 0 && !inTime) {
                send(book, m);
            }
        }
        for (int m = 0; m < people.size(); m++) {
            if (isLive(m)) {
                judge(people.get(m), balanceNow(m) < -now("debt"));
            }
        }
        books.add(new Book());
        return book.sentTo.size();
    }

    private void takeBack(Book book) {
        for (int m = 0; m < people.size(); m++) {
            if (!book.tooLate.contains(m) || !book.sentTo.contains(m)) {
                continue;
            }
            book.backFrom.add(m);
            if (book.price > 0) {
                enter(m, 3, book.price);
            }
            long late = now("late") * book.price / 100;
            if (late > 0) {
                enter(m, 4, -late);
            }
        }
    }

    private void send(Book book, int m) {
        if (book.stock() == 0) {
            book.shortOf.add(m);
            return;
        }
        book.sentTo.add(m);
        if (book.price > 0) {
            enter(m, 2, -book.price);
        }
        Person person = people.get(m);
        person.bought++;
        long bonus = now("part") * book.price / 100;
        if (now("bonus") > 0 && person.bought % now("bonus") == 0 && bonus > 0) {
            enter(m, 5, bonus);
        }
    }

    private void judge(Person person, boolean owes) {
        if (owes) {
            person.owing++;
        } else {
            settle(person);
        }
        if (now("end") != 0 && person.owing >= now("end")) {
            person.state = 2;
        } else if (now("dun") != 0 && person.owing >= now("dun")) {
            person.state = 1;
        }
    }

    long clear(int month, int what, int n) {
        if (!in(month, 0, month()) || !in(what, 0, 1) || !in(n, 0, books.get(month).stock())) {
            return -1;
        }
        Book book = books.get(month);
        book.soldOff += what == 0 ? n : 0;
        book.pulped += what == 1 ? n : 0;
        return book.stock();
    }

    long book(int month, int what) {
        if (!in(month, 0, month())) {
            return -1;
        }
        Book book = books.get(month);
        return switch (what) {
            case 0 -> book.price;
            case 1 -> book.printed;
            case 2 -> book.stock();
            case 3 -> book.sentTo.size();
            case 4 -> book.backFrom.size();
            case 5 -> book.soldOff;
            case 6 -> book.pulped;
            case 7 -> book.shortOf.size();
            default -> -1;
        };
    }

    long count(int what) {
        return switch (what) {
            case 0 -> month();
            case 1 -> people.size();
            case 2, 3, 4 -> people.stream().filter(x -> x.state == what - 2).count();
            case 5 -> lines.size();
            case 6 -> rules.size();
            case 7 -> tape.length();
            default -> -1;
        };
    }

    // ---- the ledger

    long entry(int e, int what) {
        if (!in(e, 0, lines.size() - 1)) {
            return THROWS;
        }
        Line line = lines.get(e);
        return switch (what) {
            case 0 -> line.member;
            case 1 -> line.month;
            case 2 -> line.sort;
            case 3 -> line.amount;
            case 4 -> line.struck;
            default -> THROWS;
        };
    }

    long strike(int e) {
        if (!in(e, 0, lines.size() - 1) || lines.get(e).struck != -1) {
            return 0;
        }
        lines.get(e).struck = month();
        return 1;
    }

    long balance(int member, int month, int known) {
        if (!isMember(member) || !in(month, 0, 60) || !in(known, 0, 60)) {
            return THROWS;
        }
        long sum = 0;
        for (Line line : lines) {
            boolean struck = line.struck != -1 && line.struck <= known;
            if (line.member == member && line.month <= month && !struck) {
                sum += line.amount;
            }
        }
        return sum;
    }

    // ---- chances

    long chance(int kind, int p) {
        if (!in(kind, 0, 3) || !in(p, 0, 100)) {
            return 0;
        }
        percents[kind] = p;
        return 1;
    }

    private static boolean isGroup(int n, int kinds) {
        return in(n, 1, 8) && in(kinds, 0, Math.round(Math.pow(4, n)) - 1);
    }

    long ways(int n, int kinds, int k) {
        if (!isGroup(n, kinds) || !in(k, 0, n)) {
            return -1;
        }
        long ways = 0;
        for (int takers = 0; takers < 1 << n; takers++) {
            if (Integer.bitCount(takers) == k) {
                ways += casesOf(n, kinds, takers);
            }
        }
        return ways;
    }

    private long casesOf(int n, int kinds, int takers) {
        long cases = 1;
        int digits = kinds;
        for (int i = 0; i < n; i++) {
            int p = percents[digits % 4];
            cases *= (takers >> i) % 2 == 1 ? p : 100 - p;
            digits /= 4;
        }
        return cases;
    }

    long print(int n, int kinds, int over, int under) {
        if (!isGroup(n, kinds) || !in(over, 1, 99) || !in(under, 1, 99)) {
            return -1;
        }
        List<Long> costs = new ArrayList<>();
        for (int c = 0; c <= n; c++) {
            long cost = 0;
            for (int k = 0; k <= n; k++) {
                cost += ways(n, kinds, k) * (Math.max(c - k, 0) * over + Math.max(k - c, 0) * under);
            }
            costs.add(cost);
        }
        return costs.indexOf(Collections.min(costs));
    }

    // ---- judges

    long mark(int judge, int book, int v) {
        if (!in(judge, 0, 8) || !in(book, 0, 19) || !in(v, -1, 10)) {
            return 0;
        }
        Map<Integer, Integer> ofBook = marks.computeIfAbsent(book, x -> new TreeMap<>());
        if (v == -1) {
            ofBook.remove(judge);
        } else {
            ofBook.put(judge, v);
        }
        return 1;
    }

    long kin(int judge, int book, boolean is) {
        if (!in(judge, 0, 8) || !in(book, 0, 19)) {
            return 0;
        }
        if (is) {
            kin.add(List.of(judge, book));
        } else {
            kin.remove(List.of(judge, book));
        }
        return 1;
    }

    private List<Integer> counting(int book) {
        List<Integer> counting = new ArrayList<>();
        for (Map.Entry<Integer, Integer> mark : marks.getOrDefault(book, Map.of()).entrySet()) {
            if (!kin.contains(List.of(mark.getKey(), book))) {
                counting.add(mark.getValue());
            }
        }
        Collections.sort(counting);
        return counting;
    }

    long middle(int book) {
        List<Integer> counting = counting(book);
        return counting.isEmpty() ? -1 : counting.get((counting.size() - 1) / 2);
    }

    private long lead(int book) {
        long middle = middle(book);
        return counting(book).stream().mapToLong(v -> Long.compare(v, middle)).sum();
    }

    long winner() {
        List<Integer> judged = new ArrayList<>(marks.keySet());
        judged.removeIf(book -> middle(book) == -1);
        judged.sort((a, b) -> middle(a) != middle(b) ? Long.compare(middle(b), middle(a))
                : lead(a) != lead(b) ? Long.compare(lead(b), lead(a)) : a - b);
        return judged.isEmpty() ? -1 : judged.get(0);
    }
}
