/** Promises 2 to 6 with ordinary texts; their boundary cases are in RulesEdgesTest. */
public final class RulesTest {
    public static void main(String[] args) {
        bytesComeHighestFirst();
        everyNameIsKnown();
        Check.finish();
    }

    private static void bytesComeHighestFirst() {
        BookClub club = new BookClub();
        // "dun=" "7,en" "d=10" ",par" "t=20"
        club.feed(0x64756E3D, 0x372C656E, 0x643D3130, 0x2C706172, 0x743D3230);
        Check.due("a text of five numbers", club.rules(), 3);
        Check.due("its dun", club.rule(5, 0), 7);
        Check.due("its end", club.rule(6, 0), 10);
        Check.due("its part", club.rule(7, 0), 20);
        club.feed(0x64756E3D, 0x382C64FF, 0x80000000, -1, Integer.MIN_VALUE);
        club.end(6);
        Check.due("a comma at the end", club.rules(), -1);
        club.feed(0x64756E3D, 0x382CFFFF, 0x80000000, -1, Integer.MIN_VALUE);
        Check.due("bytes above 127", club.rules(), -1);
        Check.due("their place", club.fault(1), 6);
    }

    private static void everyNameIsKnown() {
        String[] names = {"limit", "late", "bonus", "gift", "debt", "dun", "end", "part"};
        int[] first = {10, 0, 0, 0, 0, 3, 6, 50};
        BookClub club = new BookClub();
        for (int i = 0; i < names.length; i++) {
            Check.due(names[i] + " at first", club.rule(i, 0), first[i]);
            Check.due(names[i] + " at first, month 60", club.rule(i, 60), first[i]);
            Check.due("telling " + names[i], Check.tell(club, names[i] + "=" + (100 + i) + "@1"), 1);
            Check.due(names[i] + " ahead of its month", club.rule(i, 0), first[i]);
            Check.due(names[i] + " from its month on", club.rule(i, 1), 100 + i);
        }
    }
}
