/** Answers worked out by hand from the document, promise by promise. */
public final class PromiseTest {
    private static final int BAD = -2, STATE = -3, FULL = -4, NONE = -1;
    private static final Checks CHECKS = new Checks("PromiseTest");

    private PromiseTest() {
    }

    public static void main(String[] args) {
        constants();
        newObject();
        typeAndClear();
        faults();
        faultsOfNumbers();
        faultsOfParentheses();
        setGlasses();
        setAmount();
        setKind();
        fixAndLoosen();
        turn();
        stickAndTap();
        pass();
        await();
        mark();
        run();
        runEndsEarly();
        undo();
        glass();
        event();
        cost();
        costOfStacks();
        planned();
        measurable();
        count();
        digest();
        CHECKS.end();
    }

    private static void due(String what, long got, long want) {
        CHECKS.due(what, got, want);
    }

    private static SandBench withText(String text) {
        SandBench bench = new SandBench();
        retype(bench, text);
        return bench;
    }

    private static void retype(SandBench bench, String text) {
        bench.clearText();
        for (int i = 0; i < text.length(); i++) {
            bench.type(text.charAt(i));
        }
    }

    private static void faultOf(String text, int want) {
        due("fault of '" + text + "'", withText(text).fault(), want);
    }

    /** The property of each of three glasses. */
    private static void glasses(SandBench bench, int what, int... want) {
        for (int g = 0; g < want.length; g++) {
            due("glass(" + g + ", " + what + ")", bench.glass(g, what), want[g]);
        }
    }

    private static void constants() {
        due("BAD", SandBench.BAD, -2);
        due("STATE", SandBench.STATE, -3);
        due("FULL", SandBench.FULL, -4);
        due("NONE", SandBench.NONE, -1);
    }

    // Promise 1
    private static void newObject() {
        SandBench bench = new SandBench();
        glasses(bench, 0, 3, 5, 8);
        glasses(bench, 1, 0, 0, 0);
        glasses(bench, 2, 0, 0, 0);
        glasses(bench, 3, 3, 3, 3);
        glasses(bench, 4, 0, 0, 0);
        glasses(bench, 5, 0, 1, 2);
        glasses(bench, 6, 0, 0, 0);
        glasses(bench, 7, 0, 0, 0);
        int[] counts = {3, 3, 0, NONE, 0, 0, 0, 0, 0, 0};
        for (int what = 0; what < counts.length; what++) {
            due("new: count(" + what + ")", bench.count(what), counts[what]);
        }
        due("new: fault", bench.fault(), NONE);
        due("new: undo", bench.undo(), STATE);
    }

    // Promises 2 and 3
    private static void typeAndClear() {
        SandBench bench = new SandBench();
        due("type(-1)", bench.type(-1), BAD);
        due("type(128)", bench.type(128), BAD);
        due("type(0)", bench.type(0), 1);
        due("type(127)", bench.type(127), 2);
        for (int length = 3; length <= 60; length++) {
            due("type to " + length, bench.type('e'), length);
        }
        due("type past 60", bench.type('e'), FULL);
        due("type of a bad byte past 60", bench.type(128), BAD);
        due("length", bench.count(9), 60);
        due("type is no change", bench.count(8), 0);
        due("clearText", bench.clearText(), 60);
        due("length after", bench.count(9), 0);
        due("clearText again", bench.clearText(), 0);
        due("clearText is no change", bench.count(8), 0);
        due("type after", bench.type('t'), 1);
    }

    // Promise 4
    private static void faults() {
        faultOf("", NONE);
        faultOf("   ", NONE);
        faultOf("t0;", NONE);
        faultOf("k2;w99;e;", NONE);
        faultOf(" t 0 ; k 1 ; w 5 ; e ; 2 ( e ; ) ; ", NONE);
        faultOf(";", 0);
        faultOf("x;", 0);
        faultOf("T0;", 0);
        faultOf("t0;;", 3);
        faultOf("t0", 2);
        faultOf("t0  ", 4);
        faultOf("t", 1);
        faultOf("t;", 1);
        faultOf("t3;", 1);
        faultOf("k9;", 1);
        faultOf("t00;", 2);
        faultOf("t 0 1;", 4);
        faultOf("e1;", 1);
        faultOf("e", 1);
        faultOf("t0 e;", 3);
        faultOf("\tt0;", 0);
        SandBench bench = withText("t2;");
        due("fault with three glasses", bench.fault(), NONE);
        bench.setGlasses(2);
        due("fault with two glasses", bench.fault(), 1);
        due("fault is no change", bench.count(8), 1);
    }

    private static void faultsOfNumbers() {
        faultOf("w1;", NONE);
        faultOf("w01;", NONE);
        faultOf("w99;", NONE);
        faultOf("w0;", 1);
        faultOf("w00;", 1);
        faultOf("w0", 1);
        faultOf("w 00x", 2);
        faultOf("w000;", 1);
        faultOf("w001;", 1);
        faultOf("w012;", 3);
        faultOf("w100;", 3);
        faultOf("w1 0;", 3);
        faultOf("w", 1);
        faultOf("w;", 1);
        faultOf("w5", 2);
        faultOf("20(e;);", NONE);
        faultOf("01(e;);", NONE);
        faultOf("21(e;);", 0);
        faultOf("99", 0);
        faultOf("0(e;);", 0);
        faultOf("210(e;);", 0);
        faultOf("200(e;);", 2);
        faultOf("2 0(e;);", 2);
        faultOf("2", 1);
        faultOf("2;", 1);
    }

    private static void faultsOfParentheses() {
        faultOf("2();", NONE);
        faultOf("2( );", NONE);
        faultOf("2(t0;);", NONE);
        faultOf("2(2(t0;););", NONE);
        faultOf("2(2(t0;);2(t1;););", NONE);
        faultOf("2(2(2(t0;);););", 5);
        faultOf("2(2(2 (t0;);););", 6);
        faultOf("2(2(2", 5);
        faultOf("2(2(2;", 5);
        faultOf("2(2(21(", 4);
        faultOf("2(t0;)", 6);
        faultOf("2(t0;", 5);
        faultOf("2(", 2);
        faultOf("2(t0)", 4);
        faultOf("2(t0;)t0;", 6);
        faultOf(")", 0);
        faultOf("t0;)", 3);
        faultOf("(t0;);", 0);
        faultOf("2(t0;));", 6);
    }

    // Promise 5
    private static void setGlasses() {
        SandBench bench = new SandBench();
        due("setGlasses(0)", bench.setGlasses(0), BAD);
        due("setGlasses(4)", bench.setGlasses(4), BAD);
        due("errors are no change", bench.count(8), 0);
        bench.setAmount(1, 7);
        bench.setKind(0, 1, 2);
        bench.fix(0, 1);
        bench.mark();
        bench.turn(0);
        bench.pass(3);
        bench.tap(0);
        due("setGlasses(2)", bench.setGlasses(2), 3);
        due("glasses", bench.count(0), 2);
        due("stacks", bench.count(1), 2);
        due("time", bench.count(2), 3);
        due("since the mark", bench.count(3), 3);
        due("events ever", bench.count(4), 1);
        due("turns", bench.count(6), 1);
        due("taps", bench.count(7), 1);
        glasses(bench, 0, 3, 7, BAD);
        glasses(bench, 1, 0, 0);
        glasses(bench, 2, 0, 0);
        glasses(bench, 3, 3, 3);
        glasses(bench, 4, 0, 0);
        glasses(bench, 5, 0, 1);
        due("setGlasses(3)", bench.setGlasses(3), 2);
        glasses(bench, 0, 3, 7, 5);
        glasses(bench, 5, 0, 1, 2);
        bench.turn(2);
        bench.pass(5);
        due("setGlasses(1)", bench.setGlasses(1), 3);
        due("event of a glass that is no more", bench.event(0, 1), 2);
        due("turn of a glass that is no more", bench.turn(1), BAD);
        due("setGlasses(1) again", bench.setGlasses(1), 1);
    }

    // Promise 6
    private static void setAmount() {
        SandBench bench = new SandBench();
        due("setAmount(3, 5)", bench.setAmount(3, 5), BAD);
        due("setAmount(-1, 5)", bench.setAmount(-1, 5), BAD);
        due("setAmount(0, 0)", bench.setAmount(0, 0), BAD);
        due("setAmount(0, 13)", bench.setAmount(0, 13), BAD);
        due("errors are no change", bench.count(8), 0);
        bench.setKind(1, 1, 2);
        bench.turn(1);
        bench.pass(2);
        due("stuck", bench.glass(1, 4), 1);
        due("setAmount(1, 12)", bench.setAmount(1, 12), 5);
        due("amount", bench.glass(1, 0), 12);
        due("above", bench.glass(1, 1), 0);
        due("not stuck", bench.glass(1, 4), 0);
        due("count of seconds", bench.glass(1, 6), 0);
        due("kind stays", bench.glass(1, 2), 1);
        due("grip stays", bench.glass(1, 3), 2);
        due("setAmount(1, 1)", bench.setAmount(1, 1), 12);
        due("a change", bench.count(8), 5);
    }

    // Promise 7
    private static void setKind() {
        SandBench bench = new SandBench();
        due("setKind(3, 0, 3)", bench.setKind(3, 0, 3), BAD);
        due("setKind(0, 3, 3)", bench.setKind(0, 3, 3), BAD);
        due("setKind(0, -1, 3)", bench.setKind(0, -1, 3), BAD);
        due("setKind(0, 0, 0)", bench.setKind(0, 0, 0), BAD);
        due("setKind(0, 2, 10)", bench.setKind(0, 2, 10), BAD);
        due("setKind(0, 0, 9)", bench.setKind(0, 0, 9), 0);
        due("grip of a plain glass", bench.glass(0, 3), 9);
        bench.turn(2);
        due("setKind(2, 2, 1)", bench.setKind(2, 2, 1), 0);
        due("a lying glass keeps its sand", bench.glass(2, 1), 8);
        due("a lying glass doesn't run", bench.glass(2, 7), 0);
        due("await with a lying glass", bench.await(), STATE);
        due("pass with a lying glass", bench.pass(3), 0);
        due("no sand went", bench.glass(2, 1), 8);
        due("turn of a lying glass", bench.turn(2), 0);
        due("turn of a lying glass again", bench.turn(2), 8);
        due("setKind(2, 1, 4)", bench.setKind(2, 1, 4), 2);
        bench.pass(3);
        due("count of seconds", bench.glass(2, 6), 3);
        due("setKind(2, 1, 2)", bench.setKind(2, 1, 2), 1);
        due("count of seconds from new", bench.glass(2, 6), 0);
        due("sticks", bench.pass(2), 1);
        due("stuck", bench.glass(2, 4), 1);
        due("setKind(2, 0, 2)", bench.setKind(2, 0, 2), 1);
        due("a plain glass isn't stuck", bench.glass(2, 4), 0);
        due("a plain glass counts no seconds", bench.glass(2, 6), 0);
        due("a plain glass runs out", bench.await(), 3);
        due("and counts no seconds", bench.glass(2, 6), 0);
    }

    // Promises 8 and 9
    private static void fixAndLoosen() {
        SandBench bench = new SandBench();
        due("fix(0, 3)", bench.fix(0, 3), BAD);
        due("fix(-1, 0)", bench.fix(-1, 0), BAD);
        due("fix(3, 3)", bench.fix(3, 3), BAD);
        due("fix(1, 1)", bench.fix(1, 1), STATE);
        due("loosen(3)", bench.loosen(3), BAD);
        due("loosen(2)", bench.loosen(2), STATE);
        due("errors are no change", bench.count(8), 0);
        due("fix(2, 1)", bench.fix(2, 1), 1);
        glasses(bench, 5, 0, 1, 1);
        due("stacks", bench.count(1), 2);
        due("fix(1, 2)", bench.fix(1, 2), STATE);
        due("fix(0, 2)", bench.fix(0, 2), 0);
        glasses(bench, 5, 0, 0, 0);
        due("stacks", bench.count(1), 1);
        due("loosen(1)", bench.loosen(1), 3);
        glasses(bench, 5, 0, 1, 2);
        due("fix(0, 2)", bench.fix(0, 2), 0);
        glasses(bench, 5, 0, 1, 0);
        due("loosen(1) of a single glass", bench.loosen(1), STATE);
        due("loosen(2)", bench.loosen(2), 3);
        bench.setGlasses(2);
        due("fix(1, 0)", bench.fix(1, 0), 0);
        due("loosen(0)", bench.loosen(0), 2);
        due("fix(0, 2)", bench.fix(0, 2), BAD);
    }

    // Promise 10
    private static void turn() {
        SandBench bench = new SandBench();
        due("turn(3)", bench.turn(3), BAD);
        due("turn(-1)", bench.turn(-1), BAD);
        due("turn(2)", bench.turn(2), 8);
        due("runs", bench.glass(2, 7), 1);
        bench.pass(3);
        due("above", bench.glass(2, 1), 5);
        due("turn(2) again", bench.turn(2), 3);
        bench.fix(1, 2);
        due("turn(1) of a stack", bench.turn(1), 5);
        due("the other of the stack", bench.glass(2, 1), 5);
        due("the glass that is alone", bench.glass(0, 1), 0);
        due("a stack is turned once", bench.count(6), 3);
    }

    // Promise 11, and what a grip does
    private static void stickAndTap() {
        SandBench bench = new SandBench();
        due("tap(3)", bench.tap(3), BAD);
        due("tap of a plain glass", bench.tap(0), 0);
        bench.setKind(2, 1, 3);
        bench.turn(2);
        bench.pass(2);
        due("count of seconds", bench.glass(2, 6), 2);
        due("tap of a glass that isn't stuck", bench.tap(2), 0);
        due("its count", bench.glass(2, 6), 0);
        due("await", bench.await(), 3);
        due("stuck", bench.glass(2, 4), 1);
        due("count stays at the grip", bench.glass(2, 6), 3);
        due("doesn't run", bench.glass(2, 7), 0);
        due("sand stays", bench.pass(10), 0);
        due("above", bench.glass(2, 1), 3);
        due("tap of a stuck glass", bench.tap(2), 1);
        due("runs again", bench.glass(2, 7), 1);
        due("await", bench.await(), 3);
        due("run out with its grip: kind", bench.event(0, 2), 0);
        due("not stuck when it is empty", bench.glass(2, 4), 0);
        due("count when it is empty", bench.glass(2, 6), 3);
        due("taps", bench.count(7), 3);
        bench.turn(2);
        due("turned: its count", bench.glass(2, 6), 0);
        bench.pass(3);
        due("stuck again", bench.glass(2, 4), 1);
        due("a turn frees it", bench.turn(2), 3);
        due("not stuck", bench.glass(2, 4), 0);
        bench.fix(1, 2);
        bench.turn(1);
        bench.pass(3);
        due("stuck in a stack", bench.glass(2, 4), 1);
        bench.turn(1);
        due("the turn of its stack frees it", bench.glass(2, 4), 0);
        due("and its count is 0", bench.glass(2, 6), 0);
    }

    // Promise 12
    private static void pass() {
        SandBench bench = new SandBench();
        due("pass(0)", bench.pass(0), BAD);
        due("pass(1000)", bench.pass(1000), BAD);
        bench.turn(0);
        bench.turn(1);
        due("pass(2)", bench.pass(2), 0);
        due("pass(1)", bench.pass(1), 1);
        due("pass(999)", bench.pass(999), 1);
        due("time", bench.count(2), 1002);
        due("time of the event", bench.event(0, 0), 5);
        for (int i = 0; i < 9; i++) {
            due("pass(999)", bench.pass(999), 0);
        }
        due("time", bench.count(2), 9993);
        due("pass(7)", bench.pass(7), FULL);
        due("pass(1000) there", bench.pass(1000), BAD);
        due("time stays", bench.count(2), 9993);
        due("pass(6)", bench.pass(6), 0);
        due("time", bench.count(2), 9999);
        due("pass(1)", bench.pass(1), FULL);
    }

    // Promise 13
    private static void await() {
        SandBench bench = new SandBench();
        due("await", bench.await(), STATE);
        bench.turn(2);
        bench.turn(1);
        due("await", bench.await(), 5);
        due("await", bench.await(), 3);
        due("await", bench.await(), STATE);
        bench.setKind(2, 1, 2);
        bench.turn(2);
        due("await of a sticking", bench.await(), 2);
        due("kind", bench.event(0, 2), 1);
        due("await with a stuck glass", bench.await(), STATE);
        bench.setKind(2, 0, 3);
        for (int i = 0; i < 9; i++) {
            bench.pass(999);
        }
        bench.pass(9999 - bench.count(2) - 4);
        bench.turn(1);
        due("await", bench.await(), FULL);
        due("time stays", bench.count(2), 9995);
        bench.turn(0);
        due("await", bench.await(), 3);
        due("await", bench.await(), FULL);
        due("pass to the end", bench.pass(1), 0);
        due("await at the end", bench.await(), FULL);
    }

    // Promise 14
    private static void mark() {
        SandBench bench = new SandBench();
        due("mark", bench.mark(), NONE);
        due("since", bench.count(3), 0);
        bench.pass(7);
        due("since", bench.count(3), 7);
        due("mark", bench.mark(), 0);
        due("mark", bench.mark(), 7);
        due("since", bench.count(3), 0);
        due("changes", bench.count(8), 4);
    }

    // Promise 15
    private static void run() {
        SandBench bench = withText("t0;w2;k1;e;e;");
        due("run", bench.run(), 5);
        due("time", bench.count(2), 3);
        due("turns", bench.count(6), 1);
        due("taps", bench.count(7), 1);
        due("the text stays", bench.count(9), 13);
        due("one change", bench.count(8), 1);
        due("undo", bench.undo(), 0);
        due("time before", bench.count(2), 0);
        retype(bench, "t0;x");
        due("run of a fault", bench.run(), STATE);
        due("nothing done", bench.count(6), 0);
        due("no change", bench.count(8), 0);
        retype(bench, "");
        due("run of nothing", bench.run(), 0);
        due("a change all the same", bench.count(8), 1);
        retype(bench, "3(t0;2(w1;););t1;");
        due("run with parentheses", bench.run(), 10);
        due("turns", bench.count(6), 4);
        due("time", bench.count(2), 6);
        due("above", bench.glass(1, 1), 5);
        retype(bench, "20(20();20(););e;");
        due("run of empty parentheses", bench.run(), 1);
        bench = withText("t2;e;");
        bench.setKind(2, 1, 3);
        bench.fix(0, 2);
        due("run", bench.run(), 2);
        due("a script turns stacks", bench.glass(0, 1), 0);
        due("time of the sticking", bench.count(2), 3);
        retype(bench, "k2;");
        due("run", bench.run(), 1);
        due("a script taps", bench.glass(2, 7), 1);
    }

    private static void runEndsEarly() {
        SandBench bench = withText("20(5(t0;););t1;");
        due("100 steps", bench.run(), 100);
        due("turns", bench.count(6), 100);
        due("the step behind is not done", bench.glass(1, 1), 0);
        retype(bench, "20(t0;t0;w1;e;e;e;);");
        due("100 of 120 steps", bench.run(), 100);
        retype(bench, "w3;20(5(e;););");
        due("100 of 101 steps", bench.run(), 100);
        bench = withText("t0;20(20(w99;););t1;");
        due("100 steps of time", bench.run(), 100);
        due("time", bench.count(2), 99 * 99);
        retype(bench, "w9;e;w99;w99;w1;");
        due("too much time", bench.run(), 3);
        due("time", bench.count(2), 9909);
        retype(bench, "t1;k0;3(w44;);k0;");
        due("time in parentheses", bench.run(), 4);
        due("time", bench.count(2), 9997);
        due("steps behind are not done", bench.count(7), 1);
        retype(bench, "t1;e;k0;");
        due("an event too late", bench.run(), 1);
        due("no second of it", bench.count(2), 9997);
        retype(bench, "w2;");
        due("the last second", bench.run(), 1);
        retype(bench, "w1;t0;");
        due("no more", bench.run(), 0);
        retype(bench, "2(t1;t1;t1;);e;");
        bench.setAmount(1, 1);
        due("nothing runs at the end", bench.run(), 7);
    }

    // Promise 16
    private static void undo() {
        SandBench bench = new SandBench();
        due("undo", bench.undo(), STATE);
        bench.type('e');
        bench.turn(0);
        bench.pass(3);
        bench.tap(0);
        bench.mark();
        bench.setGlasses(1);
        bench.setAmount(0, 9);
        bench.setKind(0, 2, 9);
        due("undo", bench.undo(), 6);
        due("kind", bench.glass(0, 2), 0);
        due("undo", bench.undo(), 5);
        due("amount", bench.glass(0, 0), 3);
        due("undo", bench.undo(), 4);
        due("glasses", bench.count(0), 3);
        due("undo", bench.undo(), 3);
        due("mark", bench.count(3), NONE);
        due("undo", bench.undo(), 2);
        due("taps", bench.count(7), 0);
        due("events", bench.count(4), 1);
        due("undo", bench.undo(), 1);
        due("events ever", bench.count(4), 0);
        due("events listed", bench.count(5), 0);
        due("time", bench.count(2), 0);
        due("above", bench.glass(0, 1), 3);
        due("undo", bench.undo(), 0);
        due("turns", bench.count(6), 0);
        due("undo", bench.undo(), STATE);
        due("the text stays", bench.count(9), 1);
        for (int i = 1; i <= 9; i++) {
            bench.pass(i);
            due("states", bench.count(8), Math.min(i, 8));
        }
        for (int left = 7; left >= 0; left--) {
            due("undo", bench.undo(), left);
        }
        due("the oldest was dropped", bench.count(2), 1);
        due("undo", bench.undo(), STATE);
        bench.fix(0, 1);
        due("undo of a fix", bench.undo(), 0);
        due("stacks", bench.count(1), 3);
    }

    // Promise 17
    private static void glass() {
        SandBench bench = new SandBench();
        due("glass(3, 0)", bench.glass(3, 0), BAD);
        due("glass(-1, 0)", bench.glass(-1, 0), BAD);
        due("glass(0, 8)", bench.glass(0, 8), BAD);
        due("glass(0, -1)", bench.glass(0, -1), BAD);
        bench.setAmount(1, 11);
        bench.setKind(1, 1, 5);
        bench.fix(0, 1);
        bench.turn(1);
        bench.pass(4);
        int[] running = {11, 7, 1, 5, 0, 0, 4, 1};
        for (int what = 0; what < running.length; what++) {
            due("running: glass(1, " + what + ")", bench.glass(1, what), running[what]);
        }
        bench.pass(4);
        int[] stuck = {11, 6, 1, 5, 1, 0, 5, 0};
        for (int what = 0; what < stuck.length; what++) {
            due("stuck: glass(1, " + what + ")", bench.glass(1, what), stuck[what]);
        }
        bench.setGlasses(1);
        due("glass(1, 0) of one", bench.glass(1, 0), BAD);
    }

    // Promise 18
    private static void event() {
        SandBench bench = new SandBench();
        due("event(-1, 0)", bench.event(-1, 0), BAD);
        due("event(0, 3)", bench.event(0, 3), BAD);
        due("event(0, -1)", bench.event(0, -1), BAD);
        due("event(0, 0)", bench.event(0, 0), NONE);
        bench.setAmount(1, 3);
        bench.setKind(2, 1, 3);
        for (int g = 0; g < 3; g++) {
            bench.turn(g);
        }
        due("three events", bench.pass(3), 3);
        for (int i = 0; i < 3; i++) {
            due("time of event " + i, bench.event(i, 0), 3);
            due("glass of event " + i, bench.event(i, 1), 2 - i);
            due("kind of event " + i, bench.event(i, 2), i == 0 ? 1 : 0);
        }
        due("event(3, 0)", bench.event(3, 0), NONE);
        due("event(3, 3)", bench.event(3, 3), BAD);
        for (int i = 0; i < 13; i++) {
            bench.turn(0);
            bench.pass(3);
        }
        due("events ever", bench.count(4), 16);
        due("events listed", bench.count(5), 12);
        due("the latest", bench.event(0, 0), 42);
        due("the oldest", bench.event(11, 0), 9);
        due("one too many", bench.event(12, 0), NONE);
    }

    // Promise 19
    private static void cost() {
        SandBench bench = new SandBench();
        due("cost(0)", bench.cost(0), BAD);
        due("cost(41)", bench.cost(41), BAD);
        int[] costs = {NONE, NONE, 1, NONE, 1, 2, 4, 1};
        for (int span = 1; span <= costs.length; span++) {
            due("cost(" + span + ")", bench.cost(span), costs[span - 1]);
        }
        due("cost(11): 3 and 8", bench.cost(11), 2);
        due("cost(40): five times 8", bench.cost(40), 5);
        due("no change", bench.count(8), 0);
        bench.turn(0);
        due("cost(3) of what runs", bench.cost(3), 0);
        bench.pass(1);
        due("cost(2) of what is left", bench.cost(2), 0);
        due("cost(1), turned", bench.cost(1), 1);
        bench.setKind(2, 1, 2);
        bench.turn(2);
        bench.pass(2);
        due("stuck", bench.glass(2, 4), 1);
        due("cost(6): no glass sticks in a plan", bench.cost(6), 0);
        bench.setKind(2, 2, 2);
        due("cost(6): a glass lies", bench.cost(6), 2);
        due("cost(8): a glass lies", bench.cost(8), 2);
        bench.setGlasses(1);
        bench.setAmount(0, 1);
        due("cost(40) of one unit", bench.cost(40), 40);
        bench.setKind(0, 2, 1);
        due("cost(1) of a glass that lies", bench.cost(1), NONE);
    }

    private static void costOfStacks() {
        SandBench bench = new SandBench();
        bench.fix(0, 1);
        due("cost(3) of a stack", bench.cost(3), 1);
        due("cost(5) of a stack", bench.cost(5), 1);
        // Turned at 0 and at 3: then 3 and 5 - 2 are above, and both run out at 6.
        due("cost(6) of a stack", bench.cost(6), 2);
        bench.fix(0, 2);
        due("cost(8) of a stack", bench.cost(8), 1);
        due("set of a stack", bench.planned(8, 0, true), 1);
        bench.loosen(0);
        bench.fix(1, 2);
        due("number of a stack", bench.planned(8, 0, true), 2);
        bench.setKind(1, 2, 3);
        due("number of a stack with a lying glass", bench.planned(8, 0, true), 2);
        due("a lying glass of a stack", bench.cost(5), NONE);
    }

    // Promise 20
    private static void planned() {
        SandBench bench = new SandBench();
        due("planned(0, 0, true)", bench.planned(0, 0, true), BAD);
        due("planned(41, 0, false)", bench.planned(41, 0, false), BAD);
        due("planned(3, -1, true)", bench.planned(3, -1, true), BAD);
        due("planned(1, -1, false)", bench.planned(1, -1, false), BAD);
        due("planned(1, 0, true)", bench.planned(1, 0, true), NONE);
        plan(bench, 3, new int[] {1}, new int[] {0});
        plan(bench, 8, new int[] {4}, new int[] {0});
        plan(bench, 6, new int[] {1, 1}, new int[] {0, 3});
        // 3 and 8 in either order measure 11; the lesser set comes first.
        plan(bench, 11, new int[] {1, 4}, new int[] {0, 3});
        // At 3 glass 0 is turned, at 5 turned back: 2 of its 3 are above.
        plan(bench, 7, new int[] {3, 1, 1}, new int[] {0, 3, 5});
        bench.turn(0);
        bench.turn(1);
        // Nothing is turned at the start; the moments at 3 and 5 are steps.
        plan(bench, 5, new int[] {0, 0}, new int[] {0, 3});
        plan(bench, 7, new int[] {0, 1, 1}, new int[] {0, 3, 5});
        due("no change", bench.count(8), 2);
    }

    private static void plan(SandBench bench, int span, int[] sets, int[] seconds) {
        for (int i = 0; i < sets.length; i++) {
            due("set " + i + " of " + span, bench.planned(span, i, true), sets[i]);
            due("seconds " + i + " of " + span, bench.planned(span, i, false), seconds[i]);
        }
        due("a set too many of " + span, bench.planned(span, sets.length, true), NONE);
        due("seconds too many of " + span, bench.planned(span, sets.length, false), NONE);
    }

    // Promise 21
    private static void measurable() {
        SandBench bench = new SandBench();
        due("measurable(-2, 3)", bench.measurable(-2, 3), BAD);
        due("measurable(0, -1)", bench.measurable(0, -1), BAD);
        due("measurable(0, 10)", bench.measurable(0, 10), BAD);
        due("measurable(-1, 0)", bench.measurable(-1, 0), 0);
        due("measurable(0, 0)", bench.measurable(0, 0), NONE);
        int[] one = {3, 5, 8};
        due("measurable(-1, 1)", bench.measurable(-1, 1), 3);
        for (int i = 0; i < one.length; i++) {
            due("measurable(" + i + ", 1)", bench.measurable(i, 1), one[i]);
        }
        due("measurable(3, 1)", bench.measurable(3, 1), NONE);
        // All but 1, 2 and 4.
        due("measurable(-1, 9)", bench.measurable(-1, 9), 37);
        due("measurable(0, 9)", bench.measurable(0, 9), 3);
        due("measurable(1, 9)", bench.measurable(1, 9), 5);
        due("measurable(36, 9)", bench.measurable(36, 9), 40);
        due("measurable(37, 9)", bench.measurable(37, 9), NONE);
        bench.setGlasses(1);
        bench.setAmount(0, 7);
        due("measurable(-1, 9) of 7", bench.measurable(-1, 9), 5);
        due("measurable(4, 9) of 7", bench.measurable(4, 9), 35);
        due("measurable(-1, 4) of 7", bench.measurable(-1, 4), 4);
        bench.setAmount(0, 1);
        due("measurable(-1, 9) of 1", bench.measurable(-1, 9), 9);
    }

    // Promise 22
    private static void count() {
        SandBench bench = new SandBench();
        due("count(-1)", bench.count(-1), BAD);
        due("count(10)", bench.count(10), BAD);
        bench.fix(0, 1);
        bench.turn(2);
        bench.tap(1);
        bench.tap(1);
        bench.pass(6);
        bench.mark();
        bench.pass(4);
        bench.type('t');
        int[] counts = {3, 2, 10, 4, 1, 1, 1, 2, 7, 1};
        for (int what = 0; what < counts.length; what++) {
            due("count(" + what + ")", bench.count(what), counts[what]);
        }
    }

    // Promise 23
    private static void digest() {
        SandBench bench = new SandBench();
        digestOf(bench);
        retype(bench, "3(t0;w2;e;);");
        bench.setKind(1, 1, 2);
        bench.fix(2, 1);
        bench.turn(1);
        bench.run();
        bench.mark();
        digestOf(bench);
        bench.setGlasses(2);
        bench.undo();
        digestOf(bench);
        bench.setGlasses(2);
        digestOf(bench);
    }

    private static void digestOf(SandBench bench) {
        long h = 139;
        for (int what = 0; what <= 9; what++) {
            h = 31 * h + bench.count(what);
        }
        for (int g = 0; g < bench.count(0); g++) {
            for (int what = 0; what <= 7; what++) {
                h = 31 * h + bench.glass(g, what);
            }
        }
        for (int i = 0; i < bench.count(5); i++) {
            for (int what = 0; what <= 2; what++) {
                h = 31 * h + bench.event(i, what);
            }
        }
        for (int span = 1; span <= 20; span++) {
            h = 31 * h + bench.cost(span);
        }
        h = 31 * h + bench.measurable(-1, 3);
        String text = bench.count(9) == 0 ? "" : "3(t0;w2;e;);";
        for (int i = 0; i < text.length(); i++) {
            h = 31 * h + text.charAt(i);
        }
        due("digest", bench.digest(), h);
    }
}
