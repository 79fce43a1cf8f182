import java.lang.reflect.Method;
import java.lang.reflect.Modifier;
import java.util.Arrays;
import java.util.Comparator;
import java.util.function.IntSupplier;

/**
 * What the tests of edges share. Each method without arguments in a class below this one is a test,
 * if it isn't private; it begins with the words of the document that it would fail without.
 */
abstract class Edges {
    static final int BAD = -2, STATE = -3, FULL = -4, NONE = -1;
    static final int LEAST_INT = Integer.MIN_VALUE, GREATEST_INT = Integer.MAX_VALUE;
    static final int LAST_TIME = 9999;

    private Checks checks;
    private Document document;
    private String test;
    private boolean saidWords;

    final void testAll(Checks allChecks, Document wholeDocument)
            throws ReflectiveOperationException {
        checks = allChecks;
        document = wholeDocument;
        Method[] methods = getClass().getDeclaredMethods();
        Arrays.sort(methods, Comparator.comparing(Method::getName));
        for (Method method : methods) {
            boolean isPrivate = Modifier.isPrivate(method.getModifiers());
            if (method.getParameterCount() == 0 && !isPrivate) {
                test = getClass().getSimpleName() + "." + method.getName();
                saidWords = false;
                method.invoke(this);
                checks.holds(test + " says which words it is about", saidWords);
            }
        }
    }

    final void says(String section, String words) {
        saidWords = true;
        checks.holds(test + ": the document has '" + words + "'", document.says(section, words));
    }

    final void due(String what, long got, long want) {
        checks.due(test + ": " + what, got, want);
    }

    final void holds(String what, boolean condition) {
        checks.holds(test + ": " + what, condition);
    }

    /** The call answers the error, and changes nothing. */
    final void refused(SandBench bench, int error, String what, IntSupplier call) {
        long was = bench.digest();
        due(what, call.getAsInt(), error);
        due("the digest behind " + what, bench.digest(), was);
    }

    /** A property of the glasses, from glass 0 on. */
    final void glasses(SandBench bench, int what, int... want) {
        for (int g = 0; g < want.length; g++) {
            due("glass(" + g + ", " + what + ")", bench.glass(g, what), want[g]);
        }
    }

    final void event(SandBench bench, int i, int time, int glass, int kind) {
        due("the time of event " + i, bench.event(i, 0), time);
        due("the glass of event " + i, bench.event(i, 1), glass);
        due("the kind of event " + i, bench.event(i, 2), kind);
    }

    static void retype(SandBench bench, String text) {
        bench.clearText();
        for (int i = 0; i < text.length(); i++) {
            bench.type(text.charAt(i));
        }
    }

    static SandBench withText(String text) {
        SandBench bench = new SandBench();
        retype(bench, text);
        return bench;
    }

    static void passUntil(SandBench bench, int time) {
        for (int left = time - bench.count(2); left > 0; left -= 999) {
            bench.pass(Math.min(999, left));
        }
    }

    /** A new bench at a time, with nothing running. */
    static SandBench at(int time) {
        SandBench bench = new SandBench();
        passUntil(bench, time);
        return bench;
    }

    /** A bench with one glass. */
    static SandBench single(int units) {
        SandBench bench = new SandBench();
        bench.setGlasses(1);
        bench.setAmount(0, units);
        return bench;
    }

    /** A bench with a sticky glass 0, turned, and two others that stay below. */
    static SandBench sticky(int units, int grip) {
        SandBench bench = new SandBench();
        bench.setAmount(0, units);
        bench.setKind(0, 1, grip);
        bench.turn(0);
        return bench;
    }
}
