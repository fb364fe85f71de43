import java.io.IOException;
import java.lang.reflect.Method;
import java.lang.reflect.Modifier;
import java.nio.ByteBuffer;
import java.nio.charset.StandardCharsets;
import java.nio.file.Files;
import java.nio.file.Path;
import java.util.Arrays;
import java.util.regex.Pattern;

/** The examples of README.md answer what stands beside them. */
public final class ReadmeTest {
    private static String readme;

    public static void main(String[] args) throws IOException {
        readme = Files.readString(Path.of("README.md"));
        firstExample();
        textExample();
        everyCallIsNamed();
        Check.finish();
    }

    /** The line stands in the file with this answer beside it, and the call answers it. */
    private static void line(String call, long got, long want) {
        Check.due("README.md has " + call, readme.lines().anyMatch(x -> x.matches(
                ".*" + Pattern.quote(call) + "; +// " + want + "\\b.*")), true);
        Check.due(call, got, want);
    }

    private static void firstExample() {
        BookClub club = new BookClub();
        int ann = club.join(0, 3);
        line("club.join(0, 3)", ann, 0);
        int bob = club.join(1, 3);
        line("club.join(1, 3)", bob, 1);
        line("club.choice(100, 20)", club.choice(100, 20), 20);
        line("club.refuse(ann, 5)", club.refuse(ann, 5), 7);
        line("club.refuse(bob, 9)", club.refuse(bob, 9), 11);
        line("club.close()", club.close(), 1);
        line("club.member(bob, 5)", club.member(bob, 5), -100);
        line("club.close()", club.close(), 0);
        line("club.member(bob, 5)", club.member(bob, 5), 0);
        line("club.book(0, 2)", club.book(0, 2), 20);
    }

    private static int tell(BookClub club, String text) {
        ByteBuffer bytes = ByteBuffer.wrap(Arrays.copyOf(text.getBytes(StandardCharsets.ISO_8859_1), 200));
        for (int at = 0; at < text.length(); at += 20) {
            club.feed(bytes.getInt(), bytes.getInt(), bytes.getInt(), bytes.getInt(), bytes.getInt());
        }
        club.end(text.length());
        return club.rules();
    }

    private static void textExample() {
        String text = "limit=5, late=20, bonus=2@1";
        Check.due("README.md has the text", readme.contains(text), true);
        BookClub club = new BookClub();
        Check.due("rules of it", tell(club, text), 3);
        Check.due("limit", club.rule(0, 0), 5);
        Check.due("late", club.rule(1, 0), 20);
        Check.due("bonus in month 0", club.rule(2, 0), 0);
        Check.due("bonus in month 1", club.rule(2, 1), 2);
        Check.due("a text of 200 bytes", tell(club, " ".repeat(194) + "late=7"), 1);
        Check.due("a text with a fault", tell(club, "late=x"), -1);
        Check.due("fault(0)", club.fault(0), 1);
        Check.due("fault(1)", club.fault(1), 5);
    }

    private static void everyCallIsNamed() {
        for (Method call : BookClub.class.getDeclaredMethods()) {
            if (Modifier.isPublic(call.getModifiers())) {
                Check.due("README.md names " + call.getName(), readme.contains("`" + call.getName() + "`"), true);
            }
        }
    }
}
