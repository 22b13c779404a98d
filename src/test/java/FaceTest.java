import java.io.IOException;
import java.lang.reflect.Constructor;
import java.lang.reflect.Field;
import java.lang.reflect.Method;
import java.lang.reflect.Modifier;
import java.nio.file.Files;
import java.nio.file.Path;
import java.util.Set;
import java.util.TreeSet;
import java.util.regex.Pattern;

/** The face as the document has it and no more; what LANGUAGE.md rules out is not in the source. */
final class FaceTest {
    private static final Set<String> METHODS = Set.of(
        "int write(int)", "int erase()", "int fault()", "int top()", "int person(int,int)",
        "int second(int,int)", "int as(int,int)", "int start(int,int)", "int stays(int)",
        "int rope(int,int)", "int clock(int)", "int halve(int,int)", "int sell(int,int)", "int undo()",
        "int keep(int)", "int back(int)", "int best(int,int)", "int order(int,int,int)",
        "long reached()", "long free(int)", "int ropes(int)", "int together(int,int)",
        "int seen(int,int)", "int forget()", "int clocks()", "int clear(int,int,int,int)",
        "int count(int)");
    private static final Set<String> CONSTANTS = Set.of("NONE", "UNKNOWN", "OUTSIDE", "NOT", "FULL");
    private static final String[] RULED_OUT = {"throw", "try", "catch", "synchronized", "assert", "import",
        "package", "goto", "System", "Thread", "Random", "protected", "throws", "->", "::"};

    private FaceTest() {
    }

    public static void main(String[] args) throws IOException {
        members();
        methods();
        nested();
        source();
        Check.finish();
    }

    private static void members() {
        int c = SummitTime.class.getModifiers();
        Check.holds("the class is public and final", Modifier.isPublic(c) && Modifier.isFinal(c));
        Constructor<?>[] made = SummitTime.class.getDeclaredConstructors();
        Check.due("constructors", made.length, 1);
        Check.holds("the constructor is public", Modifier.isPublic(made[0].getModifiers()));
        Check.due("its parameters", made[0].getParameterCount(), 0);
        Set<String> open = new TreeSet<>();
        for (Field f : SummitTime.class.getDeclaredFields()) {
            int m = f.getModifiers();
            if (!Modifier.isPrivate(m)) {
                open.add(f.getName());
                Check.holds(f.getName() + " is a public constant",
                    Modifier.isPublic(m) && Modifier.isStatic(m) && Modifier.isFinal(m) && f.getType() == int.class);
            }
            Check.holds(f.getName() + ": what is static is final", !Modifier.isStatic(m) || Modifier.isFinal(m));
        }
        Check.holds("the constants are " + open, open.equals(CONSTANTS));
        Check.due("NONE", SummitTime.NONE, -1);
        Check.due("UNKNOWN", SummitTime.UNKNOWN, -2);
        Check.due("OUTSIDE", SummitTime.OUTSIDE, -3);
        Check.due("NOT", SummitTime.NOT, -4);
        Check.due("FULL", SummitTime.FULL, -5);
    }

    private static void methods() {
        Set<String> open = new TreeSet<>();
        Set<String> names = new TreeSet<>();
        for (Method m : SummitTime.class.getDeclaredMethods()) {
            if (Modifier.isPrivate(m.getModifiers())) {
                continue;
            }
            Check.holds(m.getName() + " is public", Modifier.isPublic(m.getModifiers()));
            StringBuilder row = new StringBuilder();
            for (Class<?> p : m.getParameterTypes()) {
                row.append(row.length() == 0 ? "" : ",").append(p.getName());
            }
            open.add(m.getReturnType().getName() + " " + m.getName() + "(" + row + ")");
            names.add(m.getName());
        }
        Check.holds("the methods are " + open, open.equals(METHODS));
        for (Method m : SummitTime.class.getDeclaredMethods()) {
            boolean hidden = Modifier.isPrivate(m.getModifiers());
            Check.holds("private " + m.getName() + " has a name of its own", !hidden || !names.contains(m.getName()));
        }
    }

    private static void nested() {
        Class<?>[] inside = SummitTime.class.getDeclaredClasses();
        Check.holds("at most twelve classes", inside.length + 1 <= 12);
        for (Class<?> c : inside) {
            int m = c.getModifiers();
            Check.holds(c + " is static and not public", Modifier.isStatic(m) && !Modifier.isPublic(m));
            Check.holds(c + " has no classes of its own", c.getDeclaredClasses().length == 0);
            for (Method method : c.getDeclaredMethods()) {
                Check.holds(method + " takes seven at most", method.getParameterCount() <= 7);
                Check.holds(method + " has not a name of the face",
                    METHODS.stream().noneMatch(f -> f.contains(" " + method.getName() + "(")));
            }
        }
    }

    private static void source() throws IOException {
        String whole = Files.readString(Path.of("src/main/java/SummitTime.java"));
        String code = whole.replaceAll("(?s)/\\*.*?\\*/", " ").replaceAll("//[^\n]*", " ");
        for (String word : RULED_OUT) {
            String bound = Character.isLetter(word.charAt(0)) ? "\\b" : "";
            boolean there = Pattern.compile(bound + Pattern.quote(word) + bound).matcher(code).find();
            Check.holds("the source is without " + word, !there);
        }
        Check.holds("the source is plain ASCII", whole.chars().allMatch(c -> c < 128));
    }
}
