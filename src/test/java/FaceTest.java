import java.io.IOException;
import java.lang.reflect.Constructor;
import java.lang.reflect.Field;
import java.lang.reflect.Method;
import java.lang.reflect.Modifier;
import java.nio.file.Files;
import java.nio.file.Path;
import java.util.Arrays;
import java.util.List;
import java.util.Set;
import java.util.TreeSet;
import java.util.regex.Matcher;
import java.util.regex.Pattern;

/** The face is the document's and no more, and the source keeps to what can be seen of LANGUAGE.md. */
public final class FaceTest {
    private static final String[] CALLS = {"int value(int,int)", "int drop(int)", "long set(int,int,int)",
        "long of(int,int)", "long at(int,int)", "long off(int,int)", "int feed(int)", "int read()",
        "int sum(int,int,int)", "int alarms(int)", "int alarm(int,int,int)", "int latest(int,int)", "int joint(int)",
        "int change(int)", "long gain(int,int,int)", "int weight(int,int)", "int weighs(int)",
        "long run(int,int,int)", "long likely(int,int,int,int)", "int would(int,int,int)", "int quiet(int)",
        "int see(int,int)", "int fits(int,int)", "long odds(int,int)", "long mean(int,int)", "int plan(int,int)",
        "int ends(int)", "int book(int,int)", "int looked()", "int judge(int,int,int)", "int image()", "int undo()",
        "int count(int)", "int tape(int,int,int)", "int item(int,int,long)", "long peek(int,int)",
        "int shift(int,int,int,int,int)"};
    private static final String[] CONSTANTS = {"int NONE", "int BAD", "int STATE", "int FULL", "long NO"};
    private static final String[] FORBIDDEN = {"\\bthrow\\b", "\\bthrows\\b", "\\btry\\b", "\\bcatch\\b",
        "\\bsynchronized\\b", "\\bassert\\b", "->", "::", "^import\\b", "^package\\b", "\\bprotected\\b", "Exact\\b",
        "\\bvar\\b", "\\bObject\\b", "hashCode", "toString", "\\bThread\\b", "\\bRandom\\b", "currentTime", "nanoTime",
        "static \\{"};
    private static int wrong = 0;

    private static void check(boolean so, String what) {
        if (so) return;
        wrong++;
        System.out.println("not so: " + what);
    }

    public static void main(String[] args) throws IOException {
        theClass();
        theMethods();
        theFields();
        theClassesInside();
        theSource();
        System.out.println(wrong == 0 ? "the face and the source are as they should be" : wrong + " faults");
        if (wrong != 0) System.exit(1);
    }

    private static void theClass() {
        int m = ShiftCharts.class.getModifiers();
        check(Modifier.isPublic(m) && Modifier.isFinal(m), "public final class");
        Constructor<?>[] made = ShiftCharts.class.getDeclaredConstructors();
        check(made.length == 1 && Modifier.isPublic(made[0].getModifiers()) && made[0].getParameterCount() == 0,
            "one public constructor");
    }

    private static String face(Method m) {
        List<String> types = Arrays.stream(m.getParameterTypes()).map(Class::getSimpleName).toList();
        return m.getReturnType().getSimpleName() + " " + m.getName() + "(" + String.join(",", types) + ")";
    }

    private static void theMethods() {
        Set<String> found = new TreeSet<>();
        Set<String> names = new TreeSet<>();
        for (String call : CALLS) names.add(call.substring(call.indexOf(' ') + 1, call.indexOf('(')));
        for (Method m : ShiftCharts.class.getDeclaredMethods()) {
            boolean open = Modifier.isPublic(m.getModifiers());
            check(open || Modifier.isPrivate(m.getModifiers()), m + " is public or private");
            check(open || !names.contains(m.getName()), m + " bears a public name");
            if (open) found.add(face(m));
        }
        check(found.equals(new TreeSet<>(List.of(CALLS))), "the public methods: " + found);
    }

    private static void theFields() {
        Set<String> found = new TreeSet<>();
        for (Field f : ShiftCharts.class.getDeclaredFields()) {
            int m = f.getModifiers();
            check(!Modifier.isStatic(m) || Modifier.isFinal(m), f + " is final");
            check(Modifier.isPublic(m) || Modifier.isPrivate(m), f + " is public or private");
            if (Modifier.isPublic(m)) found.add(f.getType().getSimpleName() + " " + f.getName());
        }
        check(found.equals(new TreeSet<>(List.of(CONSTANTS))), "the public constants: " + found);
    }

    private static void theClassesInside() {
        Class<?>[] inside = ShiftCharts.class.getDeclaredClasses();
        check(inside.length < 12, "at most some twelve classes");
        for (Class<?> c : inside) {
            check(Modifier.isStatic(c.getModifiers()) && Modifier.isPrivate(c.getModifiers()), c + " is private static");
            for (Method m : c.getDeclaredMethods()) check(m.getParameterCount() <= 7, m + " takes at most seven");
            for (Field f : c.getDeclaredFields()) {
                check(!Modifier.isStatic(f.getModifiers()) || Modifier.isFinal(f.getModifiers()), f + " is final");
            }
        }
    }

    private static void theSource() throws IOException {
        int n = 0;
        for (String line : Files.readAllLines(Path.of("src/main/java/ShiftCharts.java"))) {
            n++;
            String code = line.strip();
            if (code.startsWith("//") || code.startsWith("*") || code.startsWith("/**")) continue;
            for (String word : FORBIDDEN) {
                Matcher m = Pattern.compile(word).matcher(code);
                check(!m.find(), "line " + n + " is without " + word);
            }
        }
    }
}
