import java.io.IOException;
import java.lang.reflect.Constructor;
import java.lang.reflect.Field;
import java.lang.reflect.Method;
import java.lang.reflect.Modifier;
import java.nio.file.Files;
import java.nio.file.Path;
import java.util.ArrayList;
import java.util.Arrays;
import java.util.List;
import java.util.TreeSet;

/** The public face as the document has it, and the rules of LANGUAGE.md that a look at the text can tell. */
public final class FaceTest {
    private static final Due due = new Due();

    private static final String[] FACE = {
        "int again(int)", "int back(int)", "int bid(int,long)", "int buyer(long)", "boolean chained()",
        "long clock()", "boolean delay(int,long)", "long fee(int)", "long held(int)", "long left(int)",
        "int lot(int,long,long)", "boolean on(int,int)", "int order(int,int)", "boolean outage(long,boolean)",
        "int part(int,long)", "int play(long,int)", "boolean press(int,long)", "long price(int)",
        "boolean proved()", "int record(int,int)", "int rise(int,int,long)", "int sets(long)",
        "int start(int,long,long)", "long sum()", "int tick(long)", "int tie(int,int)", "int winner(int)",
        "boolean wins(int)"};

    private static final String[] FORBIDDEN = {
        "import ", "package ", "->", "::", "throw", "catch", " try {", "finally", "synchronized", "assert ",
        "System.", "Object", "record ", "hashCode", "toString", "Exact(", "_0", "static {", "@"};

    public static void main(String[] args) throws IOException {
        theFaceIsTheDocuments();
        noOtherMemberIsSeen();
        classesInsideAreStaticAndFew();
        theTextKeepsToTheRules();
        due.end();
    }

    private static void theFaceIsTheDocuments() {
        TreeSet<String> seen = new TreeSet<>();
        for (Method m : ClockAuctions.class.getDeclaredMethods()) {
            if (Modifier.isPublic(m.getModifiers())) {
                due.holds(m + " is not static", !Modifier.isStatic(m.getModifiers()));
                seen.add(m.getReturnType() + " " + m.getName() + typesOf(m));
            }
        }
        TreeSet<String> want = new TreeSet<>(Arrays.asList(FACE));
        due.holds("methods " + seen + " are " + want, seen.equals(want));
        due.holds("the class is public and final",
            (ClockAuctions.class.getModifiers() & (Modifier.PUBLIC | Modifier.FINAL))
                == (Modifier.PUBLIC | Modifier.FINAL));
        due.is("constructors", ClockAuctions.class.getConstructors().length, 1);
        due.is("NONE", ClockAuctions.NONE, -1);
    }

    private static String typesOf(Method m) {
        List<String> types = new ArrayList<>();
        for (Class<?> type : m.getParameterTypes()) {
            types.add(type.getName());
        }
        return "(" + String.join(",", types) + ")";
    }

    private static void noOtherMemberIsSeen() {
        TreeSet<String> names = new TreeSet<>();
        for (String line : FACE) {
            names.add(line.substring(line.indexOf(' ') + 1, line.indexOf('(')));
        }
        for (Method m : ClockAuctions.class.getDeclaredMethods()) {
            boolean isPublic = Modifier.isPublic(m.getModifiers());
            due.holds(m + " is public or private", m.isSynthetic() || isPublic || Modifier.isPrivate(m.getModifiers()));
            due.holds(m + " has a name of its own", isPublic || !names.contains(m.getName()));
        }
        for (Field f : ClockAuctions.class.getDeclaredFields()) {
            due.holds(f + " is private", f.getName().equals("NONE") || Modifier.isPrivate(f.getModifiers()));
            due.holds(f + " is no static state", !Modifier.isStatic(f.getModifiers()) || Modifier.isFinal(f.getModifiers()));
        }
        for (Constructor<?> c : ClockAuctions.class.getDeclaredConstructors()) {
            due.holds(c + " is public", Modifier.isPublic(c.getModifiers()));
        }
    }

    private static void classesInsideAreStaticAndFew() {
        Class<?>[] inside = ClockAuctions.class.getDeclaredClasses();
        due.holds("at most twelve classes", inside.length < 12);
        for (Class<?> c : inside) {
            due.holds(c + " is static", Modifier.isStatic(c.getModifiers()));
            due.holds(c + " is not public", !Modifier.isPublic(c.getModifiers()));
            int fields = 0;
            for (Field f : c.getDeclaredFields()) {
                fields += Modifier.isStatic(f.getModifiers()) ? 0 : 1;
            }
            due.holds(c + " has at most twenty fields", fields <= 20);
        }
    }

    private static void theTextKeepsToTheRules() throws IOException {
        Path path = Path.of("src/main/java/ClockAuctions.java");
        int number = 0;
        for (String line : Files.readAllLines(path)) {
            number++;
            String code = line.strip();
            if (code.startsWith("*") || code.startsWith("/*") || code.startsWith("//")) {
                continue;
            }
            for (String word : FORBIDDEN) {
                due.holds("line " + number + " is without '" + word + "'", !code.contains(word));
            }
            due.holds("line " + number + " is without a text", code.indexOf('"') < 0);
        }
        due.holds("the file was read", number > 100);
    }
}
