import java.io.IOException;
import java.lang.reflect.Constructor;
import java.lang.reflect.Field;
import java.lang.reflect.Method;
import java.lang.reflect.Modifier;
import java.nio.file.Files;
import java.nio.file.Path;
import java.util.ArrayList;
import java.util.Arrays;
import java.util.List;
import java.util.TreeSet;

/** The public face as the document has it, and the rules of LANGUAGE.md that a look at the text can tell. */
public final class FaceTest {
    private static final Due due = new Due();

    private static final String[] FACE = {
        "int again(int)", "int back(int)", "int bid(int,long)", "int buyer(long)", "boolean chained()",
        "long clock()", "boolean delay(int,long)", "long fee(int)", "long held(int)", "long left(int)",
        "int lot(int,long,long)", "boolean on(int,int)", "int order(int,int)", "boolean outage(long,boolean)",
        "int part(int,long)", "int play(long,int)", "boolean press(int,long)", "long price(int)",
        "boolean proved()", "int record(int,int)", "int rise(int,int,long)", "int sets(long)",
        "int start(int,long,long)", "long sum()", "int tick(long)", "int tie(int,int)", "int winner(int)",
        "boolean wins(int)"};

    /** What no rule leaves room for, in any text of the class. */
    private static final String[] FORBIDDEN = {
        "package ", "::", "finally", "synchronized", "assert ", "Exact(", "static {", "getMessage", "System.out",
        "System.err", "System.nano", "System.current", "System.get", "System.exit", "System.identity", "Thread",
        "Random", "java.io", "java.net", "java.nio", "java.time", "HashMap", "TreeMap", "HashSet", "hashCode",
        "NullPointerException", "ArrayIndexOutOfBounds", "ClassCastException", "NegativeArraySize",
        "ArrayStoreException", "Throwable", "catch (Exception", "catch (Error"};

    public static void main(String[] args) throws IOException {
        theFaceIsTheDocuments();
        noOtherMemberIsSeen();
        classesInsideAreFew();
        theTextKeepsToTheRules();
        due.end();
    }

    private static void theFaceIsTheDocuments() {
        TreeSet<String> seen = new TreeSet<>();
        for (Method m : ClockAuctions.class.getDeclaredMethods()) {
            if (Modifier.isPublic(m.getModifiers())) {
                due.holds(m + " is not static", !Modifier.isStatic(m.getModifiers()));
                due.is("exceptions of " + m, m.getExceptionTypes().length, 0);
                seen.add(m.getReturnType() + " " + m.getName() + typesOf(m));
            }
        }
        TreeSet<String> want = new TreeSet<>(Arrays.asList(FACE));
        due.holds("methods " + seen + " are " + want, seen.equals(want));
        due.holds("the class is public and final",
            (ClockAuctions.class.getModifiers() & (Modifier.PUBLIC | Modifier.FINAL))
                == (Modifier.PUBLIC | Modifier.FINAL));
        due.is("constructors", ClockAuctions.class.getConstructors().length, 1);
        due.is("arguments of it", ClockAuctions.class.getConstructors()[0].getParameterCount(), 0);
        due.is("NONE", ClockAuctions.NONE, -1);
    }

    private static String typesOf(Method m) {
        List<String> types = new ArrayList<>();
        for (Class<?> type : m.getParameterTypes()) {
            types.add(type.getName());
        }
        return "(" + String.join(",", types) + ")";
    }

    private static void noOtherMemberIsSeen() {
        TreeSet<String> names = new TreeSet<>();
        for (String line : FACE) {
            names.add(line.substring(line.indexOf(' ') + 1, line.indexOf('(')));
        }
        for (Method m : ClockAuctions.class.getDeclaredMethods()) {
            boolean isPublic = Modifier.isPublic(m.getModifiers());
            boolean isOwn = m.isSynthetic() || isPublic || Modifier.isPrivate(m.getModifiers());
            due.holds(m + " is public or private", isOwn);
            due.holds(m + " has a name of its own", isPublic || !names.contains(m.getName()));
            due.holds(m + " takes at most seven", m.getParameterCount() <= 7);
        }
        for (Field f : ClockAuctions.class.getDeclaredFields()) {
            boolean isOwn = f.isSynthetic() || f.getName().equals("NONE") || Modifier.isPrivate(f.getModifiers());
            due.holds(f + " is private", isOwn);
            boolean isKept = Modifier.isStatic(f.getModifiers()) && !Modifier.isFinal(f.getModifiers());
            due.holds(f + " is no static state", !isKept);
        }
        for (Constructor<?> c : ClockAuctions.class.getDeclaredConstructors()) {
            due.holds(c + " is public", c.isSynthetic() || Modifier.isPublic(c.getModifiers()));
        }
    }

    private static void classesInsideAreFew() {
        Class<?>[] inside = ClockAuctions.class.getDeclaredClasses();
        due.holds("some twelve classes", inside.length <= 13);
        for (Class<?> c : inside) {
            due.holds(c + " is not public", !Modifier.isPublic(c.getModifiers()));
            due.holds(c + " is not protected", !Modifier.isProtected(c.getModifiers()));
            for (Field f : c.getDeclaredFields()) {
                boolean isKept = Modifier.isStatic(f.getModifiers()) && !Modifier.isFinal(f.getModifiers());
                due.holds(f + " is no static state", !isKept);
            }
        }
    }

    private static void theTextKeepsToTheRules() throws IOException {
        int number = 0;
        for (String line : Files.readAllLines(Path.of("src/main/java/ClockAuctions.java"))) {
            number++;
            String code = line.strip();
            if (code.startsWith("*") || code.startsWith("/*") || code.startsWith("//")) {
                continue;
            }
            for (String word : FORBIDDEN) {
                due.holds("line " + number + " is without '" + word + "'", !code.contains(word));
            }
        }
        due.holds("the file was read", number > 100);
    }
}
