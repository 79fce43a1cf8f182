import java.util.Random;

/** Every call with arguments far out of range, in many states: no call throws, no error changes. */
public final class WrongInputTest {
    private static final int BAD = -2, STATE = -3, FULL = -4;
    private static final int[] FAR = {Integer.MIN_VALUE, Integer.MIN_VALUE + 1, -1000, -3, -2,
        13, 41, 61, 128, 1000, 10000, Integer.MAX_VALUE - 1, Integer.MAX_VALUE};
    private static final Checks CHECKS = new Checks("WrongInputTest");

    private WrongInputTest() {
    }

    public static void main(String[] args) {
        for (int run = 0; run < 60; run++) {
            Random random = new Random(run);
            SandBench bench = new SandBench();
            for (int i = 0; i < 20; i++) {
                farArguments(bench, FAR[random.nextInt(FAR.length)]);
                anyCalls(bench, random);
            }
        }
        CHECKS.end();
    }

    private static void bad(String call, SandBench bench, long answer, long digest) {
        CHECKS.due(call, answer, BAD);
        CHECKS.due(call + " changed", bench.digest(), digest);
    }

    private static void farArguments(SandBench bench, int far) {
        long was = bench.digest();
        if (far < 0 || far > 127) {
            bad("type(" + far + ")", bench, bench.type(far), was);
        }
        if (far < 1 || far > 999) {
            bad("pass(" + far + ")", bench, bench.pass(far), was);
        }
        bad("setGlasses(" + far + ")", bench, bench.setGlasses(far), was);
        bad("setAmount(" + far + ", 1)", bench, bench.setAmount(far, 1), was);
        bad("setAmount(0, " + far + ")", bench, bench.setAmount(0, far), was);
        bad("setKind(" + far + ", 0, 1)", bench, bench.setKind(far, 0, 1), was);
        bad("setKind(0, " + far + ", 1)", bench, bench.setKind(0, far, 1), was);
        bad("setKind(0, 0, " + far + ")", bench, bench.setKind(0, 0, far), was);
        bad("fix(" + far + ", 0)", bench, bench.fix(far, 0), was);
        bad("fix(0, " + far + ")", bench, bench.fix(0, far), was);
        bad("fix(" + far + ", " + far + ")", bench, bench.fix(far, far), was);
        bad("loosen(" + far + ")", bench, bench.loosen(far), was);
        bad("turn(" + far + ")", bench, bench.turn(far), was);
        bad("tap(" + far + ")", bench, bench.tap(far), was);
        bad("glass(" + far + ", 0)", bench, bench.glass(far, 0), was);
        bad("glass(0, " + far + ")", bench, bench.glass(0, far), was);
        bad("event(0, " + far + ")", bench, bench.event(0, far), was);
        bad("count(" + far + ")", bench, bench.count(far), was);
        if (far < 1 || far > 40) {
            bad("cost(" + far + ")", bench, bench.cost(far), was);
            bad("planned(" + far + ", 0, true)", bench, bench.planned(far, 0, true), was);
        }
        bad("measurable(0, " + far + ")", bench, bench.measurable(0, far), was);
        if (far < 0) {
            bad("event(" + far + ", 0)", bench, bench.event(far, 0), was);
            bad("planned(3, " + far + ", false)", bench, bench.planned(3, far, false), was);
        }
        if (far < -1) {
            bad("measurable(" + far + ", 3)", bench, bench.measurable(far, 3), was);
        }
    }

    /** Calls in which the arguments are often good; what is an error must have changed nothing. */
    private static void anyCalls(SandBench bench, Random random) {
        for (int i = 0; i < 8; i++) {
            long was = bench.digest();
            int call = random.nextInt(14);
            int a = random.nextInt(5) - 1;
            int b = random.nextInt(14) - 1;
            int answer = switch (call) {
                case 0 -> bench.setGlasses(a);
                case 1 -> bench.setAmount(a, b);
                case 2 -> bench.setKind(a, b - 4, b);
                case 3 -> bench.fix(a, b - 4);
                case 4 -> bench.loosen(a);
                case 5, 6 -> bench.turn(a);
                case 7 -> bench.tap(a);
                case 8 -> bench.pass(b * 80);
                case 9 -> bench.await();
                case 10 -> bench.run();
                case 11 -> bench.type("t0;e1(w )".charAt(Math.floorMod(b, 9)));
                case 12 -> bench.clearText();
                default -> bench.undo();
            };
            if (answer == BAD || answer == STATE || answer == FULL) {
                CHECKS.due("an error of call " + call + " changed", bench.digest(), was);
            }
            CHECKS.holds("states", bench.count(8) >= 0 && bench.count(8) <= 8);
            CHECKS.holds("time", bench.count(2) >= 0 && bench.count(2) <= 9999);
        }
    }
}
