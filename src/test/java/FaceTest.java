import java.lang.reflect.Field;
import java.lang.reflect.Method;
import java.lang.reflect.Modifier;
import java.util.Arrays;
import java.util.Set;
import java.util.TreeSet;

/** Promise 1 and the face: exactly the document's members, and what a new object answers. */
public final class FaceTest {
    private static final String[] FACE = {
        "int feed(int,int,int,int,int)", "boolean end(int)", "int rules()", "int fault(int)", "int rule(int,int)",
        "boolean lag(int,int)", "int join(int,int)", "boolean move(int,int)", "long pay(int,int)", "long leave(int)",
        "long member(int,int)", "int choice(int,int)", "int refuse(int,int)", "int close()", "int clear(int,int,int)",
        "int book(int,int)", "int count(int)", "long entry(int,int)", "boolean strike(int)",
        "long balance(int,int,int)", "boolean chance(int,int)", "long ways(int,int,int)", "int print(int,int,int,int)",
        "boolean mark(int,int,int)", "boolean kin(int,int,boolean)", "int middle(int)", "int winner()"};

    public static void main(String[] args) {
        methodsAreTheDocuments();
        fieldsAreHidden();
        newObject();
        Check.finish();
    }

    private static void methodsAreTheDocuments() {
        Set<String> shown = new TreeSet<>();
        for (Method method : BookClub.class.getDeclaredMethods()) {
            if (!Modifier.isPrivate(method.getModifiers())) {
                shown.add(signature(method));
            }
        }
        Set<String> due = new TreeSet<>(Arrays.asList(FACE));
        Check.due("the methods " + shown + " are the face", shown.equals(due), true);
        Check.due("constructors", BookClub.class.getDeclaredConstructors().length, 1);
        Check.due("the class is public and final",
                BookClub.class.getModifiers() & (Modifier.PUBLIC | Modifier.FINAL), Modifier.PUBLIC | Modifier.FINAL);
    }

    private static String signature(Method method) {
        StringBuilder text = new StringBuilder();
        for (Class<?> type : method.getParameterTypes()) {
            text.append(text.length() == 0 ? "" : ",").append(type.getSimpleName());
        }
        return method.getReturnType().getSimpleName() + " " + method.getName() + "(" + text + ")";
    }

    private static void fieldsAreHidden() {
        for (Field field : BookClub.class.getDeclaredFields()) {
            boolean shown = !Modifier.isPrivate(field.getModifiers());
            Check.due("field " + field.getName() + " is shown", shown, field.getName().equals("NONE"));
        }
        Check.due("NONE", BookClub.NONE, -1);
    }

    private static void newObject() {
        BookClub club = new BookClub();
        for (int what = 0; what <= 7; what++) {
            Check.due("count(" + what + ") of a new object", club.count(what), 0);
        }
        Check.due("member(0, 0) of a new object", Check.member(club, 0, 0), Check.THROWS);
        Check.due("entry(0, 0) of a new object", Check.entry(club, 0, 0), Check.THROWS);
        Check.due("middle(0) of a new object", club.middle(0), -1);
        Check.due("winner() of a new object", club.winner(), -1);
        Check.due("fault(0) of a new object", club.fault(0), 0);
        Check.due("fault(1) of a new object", club.fault(1), 0);
        for (int what = 0; what <= 7; what++) {
            Check.due("book(0, " + what + ") of a new object", club.book(0, what), 0);
        }
        Check.due("book(1, 0) of a new object", club.book(1, 0), -1);
    }
}
