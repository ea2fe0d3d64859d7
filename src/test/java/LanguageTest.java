import java.lang.reflect.Constructor;
import java.lang.reflect.Field;
import java.lang.reflect.Method;
import java.lang.reflect.Modifier;
import java.nio.charset.StandardCharsets;
import java.nio.file.Files;
import java.nio.file.Path;
import java.util.ArrayList;
import java.util.Arrays;
import java.util.List;
import java.util.TreeSet;

/** The face of the class and those rules of ../shared/LANGUAGE.md that can be seen in its text. */
public final class LanguageTest {
    private static final Due due = new Due("LanguageTest");
    private static final Path SOURCE = Path.of("src/main/java/LockerChains.java");
    private static final String[] FACE = {
        "int locker int", "int person", "int stand int int", "int lend int int", "int giveBack int", "int renew int",
        "int lose int", "int wish int int", "int noWish int", "int swap", "int pay int int", "int pass int",
        "int set int int", "int personOf int int", "int lockerOf int int", "int waitingAt int int", "int count int",
        "int feeIn int int", "int wouldHave int", "long lentBits", "int overdueBits", "int undo", "int type int",
        "int clearText", "int fault int", "int play"};
    private static final String[] NOT_ALLOWED = {
        "import ", "package ", "->", "::", "catch", "throw", "finally", "synchronized", "assert", "Double.", "Float.",
        "System.out", "static {", "Exact(", "protected", "volatile", "native", "Object", "Thread", "hashCode", "toString"};

    public static void main(String[] args) throws Exception {
        face();
        constants();
        notAllowed();
        shortMethods();
        due.end();
    }

    private static void face() {
        due.part("rule 1");
        Class<?> c = LockerChains.class;
        TreeSet<String> open = new TreeSet<>();
        TreeSet<String> closed = new TreeSet<>();
        for (Method m : c.getDeclaredMethods()) {
            StringBuilder form = new StringBuilder(m.getReturnType().getName()).append(' ').append(m.getName());
            for (Class<?> type : m.getParameterTypes()) {
                form.append(' ').append(type.getName());
            }
            if (Modifier.isPrivate(m.getModifiers())) {
                closed.add(m.getName());
            } else {
                open.add(form.toString());
                due.is(m.getName() + " is public and no more", m.getModifiers(), Modifier.PUBLIC);
            }
        }
        due.is("the methods", open.equals(new TreeSet<>(Arrays.asList(FACE))) ? 1 : 0, 1);
        for (String form : FACE) {
            String name = form.split(" ")[1];
            due.is("private methods named " + name, closed.contains(name) ? 1 : 0, 0);
        }
        Constructor<?>[] constructors = c.getDeclaredConstructors();
        due.is("constructors", constructors.length, 1);
        due.is("its modifiers", constructors[0].getModifiers(), Modifier.PUBLIC);
        due.is("the class", c.getModifiers(), Modifier.PUBLIC | Modifier.FINAL);
        due.is("classes, not too many", c.getDeclaredClasses().length < 12 ? 1 : 0, 1);
        for (Class<?> inside : c.getDeclaredClasses()) {
            due.is(inside.getName() + " is static", inside.getModifiers() & Modifier.STATIC, Modifier.STATIC);
            due.is(inside.getName() + " is private", inside.getModifiers() & Modifier.PRIVATE, Modifier.PRIVATE);
        }
    }

    private static void constants() throws Exception {
        due.part("the constants");
        String[] names = {"INVALID_ARGUMENT", "NOT_POSSIBLE", "LIMIT_REACHED", "NOT_FOUND"};
        List<String> open = new ArrayList<>();
        for (Field f : LockerChains.class.getDeclaredFields()) {
            if (!Modifier.isPrivate(f.getModifiers())) {
                open.add(f.getName());
                due.is(f.getName(), f.getModifiers(), Modifier.PUBLIC | Modifier.STATIC | Modifier.FINAL);
            }
            if (Modifier.isStatic(f.getModifiers())) {
                due.is(f.getName() + " is final", f.getModifiers() & Modifier.FINAL, Modifier.FINAL);
            }
        }
        due.is("open fields", open.equals(Arrays.asList(names)) ? 1 : 0, 1);
        for (int i = 0; i < names.length; i++) {
            due.is(names[i], LockerChains.class.getField(names[i]).getInt(null), -1 - i);
        }
    }

    private static void notAllowed() throws Exception {
        due.part("rules 3 to 10");
        String source = Files.readString(SOURCE, StandardCharsets.US_ASCII);
        for (String word : NOT_ALLOWED) {
            due.is("the place of '" + word + "'", source.indexOf(word), -1);
        }
    }

    private static void shortMethods() throws Exception {
        due.part("rule 11");
        List<String> lines = Files.readAllLines(SOURCE, StandardCharsets.US_ASCII);
        int begin = -1;
        for (int i = 0; i < lines.size(); i++) {
            String line = lines.get(i);
            String body = line.strip();
            int indent = line.length() - body.length();
            if (body.endsWith(") {") && (indent == 4 || indent == 8) && !body.startsWith("if") && !body.startsWith("for")) {
                begin = i;
            }
            if (body.equals("}") && (indent == 4 || indent == 8) && begin >= 0) {
                due.is("a short method at line " + (begin + 1), i - begin > 60 ? i - begin : 0, 0);
                begin = -1;
            }
        }
    }
}
