import java.io.IOException;
import java.lang.reflect.Constructor;
import java.lang.reflect.Field;
import java.lang.reflect.Method;
import java.lang.reflect.Modifier;
import java.nio.file.Files;
import java.nio.file.Path;
import java.util.Arrays;
import java.util.HashSet;
import java.util.List;
import java.util.Set;
import java.util.TreeSet;
import java.util.regex.Matcher;
import java.util.regex.Pattern;

/** The face of the class, and those rules of ../shared/LANGUAGE.md that can be told from a text. */
public final class LanguageTest {
    private static final Checks CHECKS = new Checks("LanguageTest");
    private static final List<String> FACE = List.of("int type(int)", "int clearText()",
            "int fault()", "int setGlasses(int)", "int setAmount(int,int)",
            "int setKind(int,int,int)", "int fix(int,int)", "int loosen(int)", "int turn(int)",
            "int tap(int)", "int pass(int)", "int await()", "int mark()", "int run()",
            "int undo()", "int glass(int,int)", "int event(int,int)", "int cost(int)",
            "int planned(int,int,boolean)", "int measurable(int,int)", "int count(int)",
            "long digest()");
    private static final List<String> RULED_OUT = List.of("\\bthrows?\\b", "\\btry\\b",
            "\\bcatch\\b", "\\bsynchronized\\b", "\\bassert\\b", "->", "::", "\\bprotected\\b",
            "\\bpackage\\b", "\\bThread\\b", "\\bSystem\\.(?!arraycopy)", "Exact\\b",
            "\\b(equals|hashCode|toString)\\b", "\\bInteger\\.[A-Z]", "\\bLong\\.[A-Z]", "\\?>",
            "import (?!java\\.util\\.(Arrays|ArrayList|List|Iterator);)", "\\bstatic \\{");

    private static final Pattern LAST_OF_LOOP =
            Pattern.compile("\\b(?:for|while) \\([^\n]*?<= ([\\w.]+)[^\n]*");
    /** A cost is looked at against the most that there is, and the sands of full glasses are few. */
    private static final Set<String> SMALL = Set.of("cost", "full");

    private LanguageTest() {
    }

    public static void main(String[] args) throws IOException {
        face();
        insideClasses(SandBench.class.getDeclaredClasses());
        source(Files.readString(Path.of("src/main/java/SandBench.java")));
        CHECKS.end();
    }

    private static void face() {
        Class<?> face = SandBench.class;
        CHECKS.holds("public and final",
                Modifier.isPublic(face.getModifiers()) && Modifier.isFinal(face.getModifiers()));
        Set<String> found = new TreeSet<>();
        Set<String> names = new HashSet<>();
        for (Method method : face.getDeclaredMethods()) {
            if (Modifier.isPublic(method.getModifiers())) {
                String parameters = String.join(",", Arrays.stream(method.getParameterTypes())
                        .map(Class::getSimpleName).toList());
                found.add(method.getReturnType() + " " + method.getName()
                        + "(" + parameters + ")");
                names.add(method.getName());
            }
        }
        CHECKS.holds("the methods of the document: " + found, found.equals(new TreeSet<>(FACE)));
        for (Method method : face.getDeclaredMethods()) {
            boolean isPrivate = Modifier.isPrivate(method.getModifiers());
            CHECKS.holds("public or private: " + method,
                    isPrivate || Modifier.isPublic(method.getModifiers()));
            CHECKS.holds("a name of its own: " + method,
                    !isPrivate || !names.contains(method.getName()));
        }
        for (Field field : face.getDeclaredFields()) {
            boolean isConstant = Set.of("BAD", "STATE", "FULL", "NONE").contains(field.getName());
            CHECKS.holds("a constant of the document or private: " + field,
                    isConstant == Modifier.isPublic(field.getModifiers())
                            && isConstant != Modifier.isPrivate(field.getModifiers()));
        }
        Constructor<?>[] constructors = face.getDeclaredConstructors();
        CHECKS.holds("one public constructor", constructors.length == 1
                && constructors[0].getParameterCount() == 0
                && Modifier.isPublic(constructors[0].getModifiers()));
    }

    private static void insideClasses(Class<?>[] inside) {
        CHECKS.holds("at most some twelve classes", inside.length < 12);
        for (Class<?> one : inside) {
            CHECKS.holds("static and not public: " + one, Modifier.isStatic(one.getModifiers())
                    && !Modifier.isPublic(one.getModifiers()));
            long fields = Arrays.stream(one.getDeclaredFields())
                    .filter(field -> !Modifier.isStatic(field.getModifiers())).count();
            CHECKS.holds("at most some twenty fields: " + one, fields <= 20);
            for (Method method : one.getDeclaredMethods()) {
                CHECKS.holds("no name of the face: " + method, FACE.stream()
                        .noneMatch(face -> face.contains(" " + method.getName() + "(")));
            }
            for (Field field : one.getDeclaredFields()) {
                CHECKS.holds("static fields are final: " + field,
                        !Modifier.isStatic(field.getModifiers())
                                || Modifier.isFinal(field.getModifiers()));
            }
        }
    }

    private static void source(String source) {
        String code = source.replaceAll("(?s)/\\*.*?\\*/", "").replaceAll("//[^\n]*", "")
                .replaceAll("'(\\\\.|[^'\\\\])'", "' '")
                .replaceAll("\"(\\\\.|[^\"\\\\])*\"", "\"\"");
        for (String rule : RULED_OUT) {
            CHECKS.holds("without " + rule, !Pattern.compile(rule).matcher(code).find());
        }
        loops(code);
    }

    /** Counting on while i <= n has no end for the greatest n, so n can't be what a caller gives. */
    private static void loops(String code) {
        for (Matcher bound = LAST_OF_LOOP.matcher(code); bound.find();) {
            CHECKS.holds("a bound that is small: " + bound.group(),
                    bound.group(1).matches("\\d+|([A-Z]\\w+\\.)?[A-Z_]+")
                            || SMALL.contains(bound.group(1)));
        }
    }
}
