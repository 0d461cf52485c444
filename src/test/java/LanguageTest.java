import java.io.IOException;
import java.lang.reflect.Constructor;
import java.lang.reflect.Field;
import java.lang.reflect.Method;
import java.lang.reflect.Modifier;
import java.nio.file.Files;
import java.nio.file.Path;
import java.util.ArrayList;
import java.util.Arrays;
import java.util.List;
import java.util.Set;
import java.util.TreeSet;
import java.util.regex.Pattern;

/** The document's face, and those rules of LANGUAGE.md that can be read off the class and its text. */
public final class LanguageTest {
    private static final Checks C = new Checks();
    private static final Path SOURCE = Path.of("src/main/java/WhoPrompts.java");
    private static final String[] FACE = {"line 3", "lines 3", "feed 1", "law 1", "set 2", "mend 3", "of 2",
        "rehearse 1", "jumps 2", "behind 1", "way 2", "night 1", "told 1", "said 2", "mean 3", "tape 2", "prompt 2",
        "evenings 2", "cut 2", "newspaper 2", "image 0", "back 0", "undo 0", "redo 0", "body 1", "act 3", "trace 1",
        "keep 2", "row 3", "put 3", "element 2", "shift 5", "taken 2", "count 1"};

    public static void main(String[] args) throws IOException {
        face();
        constants();
        members();
        inner();
        words();
        sizes();
        room();
        C.finish();
    }

    private static void face() {
        Set<String> found = new TreeSet<>();
        for (Method m : WhoPrompts.class.getDeclaredMethods()) {
            if (Modifier.isPublic(m.getModifiers())) {
                found.add(m.getName() + " " + m.getParameterCount());
                boolean answersLong = m.getReturnType() == long.class;
                C.holds(m.getName() + " answers as the face says", answersLong == m.getName().equals("element"));
            }
        }
        C.holds("the face is the document's: " + found, found.equals(new TreeSet<>(Arrays.asList(FACE))));
        C.holds("public and final", Modifier.isPublic(WhoPrompts.class.getModifiers())
            && Modifier.isFinal(WhoPrompts.class.getModifiers()));
        Constructor<?>[] makers = WhoPrompts.class.getDeclaredConstructors();
        C.holds("one public constructor", makers.length == 1 && Modifier.isPublic(makers[0].getModifiers()));
    }

    private static void constants() {
        C.due("BAD", WhoPrompts.BAD, -1);
        C.due("NOT", WhoPrompts.NOT, -2);
        C.due("FULL", WhoPrompts.FULL, -3);
        C.due("STATE", WhoPrompts.STATE, -5);
        C.due("VOID", WhoPrompts.VOID, -2000000000);
    }

    private static void members() {
        for (Field f : WhoPrompts.class.getDeclaredFields()) {
            boolean promised = Set.of("BAD", "NOT", "FULL", "STATE", "VOID").contains(f.getName());
            C.holds("field " + f.getName() + " is private, or of the face",
                promised == Modifier.isPublic(f.getModifiers()) && promised != Modifier.isPrivate(f.getModifiers()));
            C.holds("static " + f.getName() + " is final",
                !Modifier.isStatic(f.getModifiers()) || Modifier.isFinal(f.getModifiers()));
        }
        Set<String> names = new TreeSet<>();
        for (String f : FACE) {
            names.add(f.split(" ")[0]);
        }
        List<Class<?>> all = new ArrayList<>(Arrays.asList(WhoPrompts.class.getDeclaredClasses()));
        all.add(WhoPrompts.class);
        for (Class<?> c : all) {
            for (Method m : c.getDeclaredMethods()) {
                boolean open = c == WhoPrompts.class && Modifier.isPublic(m.getModifiers());
                C.holds(m + " does not bear a public one's name", open || !names.contains(m.getName()));
                C.holds(m + " is private or public", c != WhoPrompts.class || open
                    || Modifier.isPrivate(m.getModifiers()));
                C.holds(m + " takes at most seven", m.getParameterCount() <= 7);
            }
        }
    }

    private static void inner() {
        Class<?>[] inside = WhoPrompts.class.getDeclaredClasses();
        C.holds("at most twelve classes", inside.length + 1 <= 12);
        for (Class<?> c : inside) {
            C.holds(c + " is static", Modifier.isStatic(c.getModifiers()));
            C.holds(c + " is not public", !Modifier.isPublic(c.getModifiers()) && !Modifier.isProtected(c.getModifiers()));
            long fields = Arrays.stream(c.getDeclaredFields()).filter(f -> !Modifier.isStatic(f.getModifiers())).count();
            C.holds(c + " has at most twenty fields", fields <= 20);
            for (Field f : c.getDeclaredFields()) {
                C.holds(f + " is final if static",
                    !Modifier.isStatic(f.getModifiers()) || Modifier.isFinal(f.getModifiers()));
            }
        }
    }

    private static void words() throws IOException {
        String code = Files.readString(SOURCE)
            .replaceAll("(?s)/\\*.*?\\*/", " ").replaceAll("//[^\n]*", " ").replaceAll("'[^'\n]+'", "' '");
        String[] banned = {"throw", "throws", "try", "catch", "finally", "synchronized", "assert", "package",
            "protected", "native", "volatile", "transient", "strictfp", "default\\s+\\w+\\s*\\(", "System\\.(?!arraycopy)\\w+",
            "Thread", "Random", "Object", "Class", "Exception", "goto", "\\w+Exact", "hashCode", "toString", "var"};
        for (String word : banned) {
            C.holds("no " + word, !Pattern.compile("\\b" + word + "\\b").matcher(code).find());
        }
        C.holds("no lambda, no method reference", !code.contains("->") && !code.contains("::"));
        C.holds("only Arrays is imported", code.replaceAll("import java\\.util\\.Arrays;", "").indexOf("import ") < 0);
        for (char c : Files.readString(SOURCE).toCharArray()) {
            if (c > 127) {
                C.holds("signs are 1 to 127", false);
                break;
            }
        }
    }

    private static void sizes() throws IOException {
        int began = -1;
        int at = 0;
        Pattern head = Pattern.compile("^ {4}( {4})?(public|private|static|final|int|long|boolean|void)\\b[^;=]*\\) \\{$");
        for (String line : Files.readAllLines(SOURCE)) {
            at++;
            if (head.matcher(line).find()) {
                began = at;
            } else if (line.matches(" {4}( {4})?\\}") && began > 0) {
                C.holds("the method at " + began + " is short", at - began < 60);
                began = -1;
            }
            C.holds("line " + at + " is not too long", line.length() <= 120);
        }
    }

    /** A full object asked for its dearest calls 512 times must make next to nothing beyond itself. */
    private static void room() {
        com.sun.management.ThreadMXBean beans =
            (com.sun.management.ThreadMXBean) java.lang.management.ManagementFactory.getThreadMXBean();
        long id = Thread.currentThread().getId();
        WhoPrompts x = new WhoPrompts();
        ask(x);
        long before = beans.getThreadAllocatedBytes(id);
        ask(x);
        long made = beans.getThreadAllocatedBytes(id) - before;
        C.holds("calls make no objects, but made " + made + " bytes", made < 4096);
        before = beans.getThreadAllocatedBytes(id);
        new WhoPrompts();
        made = beans.getThreadAllocatedBytes(id) - before;
        C.holds("an object is small, but has " + made + " bytes", made < 60000);
    }

    private static void ask(WhoPrompts x) {
        for (int k = 0; k < 512; k++) {
            x.line(k % 600, 1 + k % 30, 1000 * (k % 256));
            x.feed('h');
            x.law(k % 2);
            x.mend(k % 20, 0, k % 101);
            x.night(k);
            x.mean(k, 20, 1);
            x.way(k, -1);
            x.cut(3, 0);
            x.evenings(30, -1);
            x.newspaper(k % 56, 0);
            x.prompt(k % 6, 0);
            x.row(k % 6, k % 5, 60);
            x.shift(k % 6, 0, k % 6, 1, 59);
            x.body(k % 8);
            x.act(k % 50, k % 4, k);
            x.image();
            x.undo();
        }
    }
}
