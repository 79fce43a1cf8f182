import java.util.LinkedHashMap;
import java.util.Map;
import java.util.function.ToIntFunction;

/** undo(): promise 16, what changes are, and that errors change nothing. */
final class HistoryEdges extends Edges {
    private static final String UNDO = "Promise 16: undo";
    private static final String CHANGES = "Changes";
    private static final String ERRORS = "Errors";

    /** A bench in which every change can be done; it has six states in its history. */
    private static SandBench ready() {
        SandBench bench = withText("t1;w2;k0;e;");
        bench.setKind(0, 1, 2);
        bench.fix(0, 1);
        bench.turn(0);
        bench.pass(2);
        bench.mark();
        bench.turn(2);
        return bench;
    }

    private static Map<String, ToIntFunction<SandBench>> changes() {
        Map<String, ToIntFunction<SandBench>> changes = new LinkedHashMap<>();
        changes.put("setGlasses(2)", bench -> bench.setGlasses(2));
        changes.put("setAmount(0, 12)", bench -> bench.setAmount(0, 12));
        changes.put("setKind(2, 2, 9)", bench -> bench.setKind(2, 2, 9));
        changes.put("fix(1, 2)", bench -> bench.fix(1, 2));
        changes.put("loosen(0)", bench -> bench.loosen(0));
        changes.put("turn(1)", bench -> bench.turn(1));
        changes.put("tap(0)", bench -> bench.tap(0));
        changes.put("pass(999)", bench -> bench.pass(999));
        changes.put("await()", SandBench::await);
        changes.put("mark()", SandBench::mark);
        changes.put("run()", SandBench::run);
        return changes;
    }

    void eachChangeIsRecorded() {
        says(CHANGES, "Changes are the calls of the methods in the section \"changes\" that return"
                + " no error, also if nothing becomes different.");
        for (Map.Entry<String, ToIntFunction<SandBench>> change : changes().entrySet()) {
            SandBench bench = ready();
            long was = bench.digest();
            due("states", bench.count(8), 6);
            int answer = change.getValue().applyAsInt(bench);
            holds("no error of " + change.getKey(), answer >= NONE);
            due("states behind " + change.getKey(), bench.count(8), 7);
            due("undo() of " + change.getKey(), bench.undo(), 6);
            due("the digest behind it", bench.digest(), was);
        }
    }

    void changesThatMakeNothingDifferent() {
        says(CHANGES, "also if nothing becomes different");
        SandBench bench = new SandBench();
        bench.setGlasses(3);
        due("states behind setGlasses(3)", bench.count(8), 1);
        bench.setAmount(2, 8);
        due("states behind setAmount(2, 8)", bench.count(8), 2);
        bench.setKind(1, 0, 3);
        due("states behind setKind(1, 0, 3)", bench.count(8), 3);
        bench.mark();
        bench.mark();
        due("states behind mark() twice", bench.count(8), 5);
        bench.run();
        due("states behind run() of an empty text", bench.count(8), 6);
        bench.setKind(1, 2, 3);
        bench.tap(1);
        due("states behind tap(1)", bench.count(8), 8);
    }

    void noneIsNoError() {
        says(ERRORS, "NONE is no error; it means that there is no such thing, and is returned only if"
                + " no error applies.");
        SandBench bench = new SandBench();
        due("mark()", bench.mark(), NONE);
        due("a change all the same", bench.count(8), 1);
        due("undo()", bench.undo(), 0);
    }

    void noneOnlyIfNoErrorApplies() {
        says(ERRORS, "is returned only if no error applies");
        SandBench bench = new SandBench();
        due("event(99, 3)", bench.event(99, 3), BAD);
        due("event(99, -1)", bench.event(99, -1), BAD);
        due("planned(1, -1, true)", bench.planned(1, -1, true), BAD);
        due("planned(41, 99, true)", bench.planned(41, 99, true), BAD);
        due("measurable(99, 10)", bench.measurable(99, 10), BAD);
        due("measurable(99, -1)", bench.measurable(99, -1), BAD);
    }

    void errorsInTheirOrder() {
        says(ERRORS, "If several errors apply, the one that comes first in this list is returned.");
        SandBench bench = at(9999);
        retype(bench, "e".repeat(60));
        refused(bench, BAD, "type(128), full and bad", () -> bench.type(128));
        refused(bench, BAD, "pass(1000), full and bad", () -> bench.pass(1000));
        refused(bench, BAD, "fix(3, 3), of one stack and bad", () -> bench.fix(3, 3));
        refused(bench, STATE, "await(), full with nothing running", bench::await);
    }

    void othersAreNoChanges() {
        says(CHANGES, "Changes are the calls of the methods in the section \"changes\"");
        SandBench bench = new SandBench();
        bench.turn(0);
        bench.type('e');
        bench.clearText();
        bench.fault();
        bench.glass(0, 0);
        bench.event(0, 0);
        bench.cost(5);
        bench.planned(5, 0, true);
        bench.measurable(0, 9);
        bench.count(8);
        bench.digest();
        due("count(8)", bench.count(8), 1);
        due("undo()", bench.undo(), 0);
        due("above", bench.glass(0, 1), 0);
    }

    void errorsAreNoChanges() {
        says(ERRORS, "A call that returns an error changes nothing.");
        SandBench bench = ready();
        SandBench twin = ready();
        passUntil(bench, 9999);
        passUntil(twin, 9999);
        retype(bench, "x");
        retype(twin, "x");
        int[] errors = {bench.setGlasses(4), bench.setAmount(0, 13), bench.setKind(0, 0, 10),
            bench.fix(0, 1), bench.loosen(2), bench.turn(3), bench.tap(-1), bench.pass(1),
            bench.await(), bench.run(), bench.type(-1)};
        int[] want = {BAD, BAD, BAD, STATE, STATE, BAD, BAD, FULL, STATE, STATE, BAD};
        for (int i = 0; i < errors.length; i++) {
            due("the error " + i, errors[i], want[i]);
        }
        // The history is the same, too: a full one would have lost a state.
        for (int left = 8; left >= 0; left--) {
            due("the digest with " + left + " left", bench.digest(), twin.digest());
            due("undo()", bench.undo(), twin.undo());
        }
    }

    void undoWithoutAState() {
        says(UNDO, "Returns how many states are left in the history; STATE if there is none.");
        SandBench bench = new SandBench();
        refused(bench, STATE, "undo() of a new bench", bench::undo);
        bench.turn(0);
        due("undo()", bench.undo(), 0);
        refused(bench, STATE, "undo() again", bench::undo);
        due("the digest", bench.digest(), new SandBench().digest());
        bench.turn(1);
        due("undo() of a later change", bench.undo(), 0);
    }

    void fullHistory() {
        says(CHANGES, "A history of at most 8 states is kept");
        SandBench bench = new SandBench();
        for (int time = 1; time <= 12; time++) {
            bench.pass(1);
            due("count(8)", bench.count(8), Math.min(time, 8));
        }
    }

    void eightStatesAreNotDropped() {
        says(CHANGES, "A history of at most 8 states is kept: each change records the state before"
                + " it (glasses, stacks, time, events, mark, numbers of turns and taps), and when"
                + " one more is recorded, the oldest one is dropped.");
        SandBench bench = new SandBench();
        for (int i = 0; i < 8; i++) {
            bench.pass(1);
        }
        for (int left = 7; left >= 0; left--) {
            due("undo()", bench.undo(), left);
            due("time", bench.count(2), left);
        }
        refused(bench, STATE, "undo()", bench::undo);
    }

    void ninthStateDropsTheOldest() {
        says(CHANGES, "when one more is recorded, the oldest one is dropped");
        for (int changes = 9; changes <= 26; changes++) {
            SandBench bench = new SandBench();
            for (int i = 0; i < changes; i++) {
                bench.pass(1);
            }
            for (int left = 7; left >= 0; left--) {
                due("undo()", bench.undo(), left);
                due("time", bench.count(2), changes - 8 + left);
            }
            refused(bench, STATE, "undo()", bench::undo);
        }
    }

    void changesBetweenUndos() {
        says(UNDO, "Restores the latest state of the history.");
        SandBench bench = new SandBench();
        for (int i = 0; i < 8; i++) {
            bench.pass(1);
        }
        for (int i = 0; i < 3; i++) {
            bench.undo();
        }
        for (int i = 0; i < 5; i++) {
            bench.pass(10);
        }
        due("time", bench.count(2), 55);
        due("count(8)", bench.count(8), 8);
        int[] times = {45, 35, 25, 15, 5, 4, 3, 2};
        for (int i = 0; i < times.length; i++) {
            due("undo()", bench.undo(), 7 - i);
            due("time", bench.count(2), times[i]);
        }
        due("undo()", bench.undo(), STATE);
    }

    void undoIsNoChange() {
        says(CHANGES, "undo() removes the latest one and restores it.");
        SandBench bench = new SandBench();
        bench.turn(0);
        bench.turn(1);
        due("undo()", bench.undo(), 1);
        glasses(bench, 1, 3, 0, 0);
        due("undo()", bench.undo(), 0);
        glasses(bench, 1, 0, 0, 0);
        due("undo()", bench.undo(), STATE);
    }

    void lastOf512Calls() {
        says("What it is", "An object is used for at most 512 calls after it has been made");
        SandBench bench = new SandBench();
        for (int call = 1; call < 512; call++) {
            due("turn(0), call " + call, bench.turn(0), call % 2 == 0 ? 0 : 3);
        }
        due("count(6)", bench.count(6), 511);
    }

    void allOfAStateIsRestored() {
        says(CHANGES, "each change records the state before it (glasses, stacks, time, events, mark,"
                + " numbers of turns and taps)");
        SandBench bench = withText("t0;k1;w9;t2;w9;");
        long was = bench.digest();
        bench.run();
        bench.mark();
        bench.fix(0, 2);
        bench.setKind(1, 1, 9);
        bench.setAmount(1, 11);
        bench.setGlasses(1);
        for (int left = 5; left >= 0; left--) {
            due("undo()", bench.undo(), left);
        }
        due("the digest", bench.digest(), was);
        due("mark()", bench.mark(), NONE);
    }

    void glassesThatWereGoneComeBack() {
        says(UNDO, "Restores the latest state of the history");
        SandBench bench = new SandBench();
        bench.setKind(2, 1, 7);
        bench.turn(2);
        bench.pass(3);
        bench.setGlasses(1);
        due("undo()", bench.undo(), 3);
        int[] properties = {8, 5, 1, 7, 0, 2, 3, 1};
        for (int what = 0; what < properties.length; what++) {
            due("glass(2, " + what + ")", bench.glass(2, what), properties[what]);
        }
    }

    void textIsNotRestored() {
        says(CHANGES, "The text does not belong to a state.");
        SandBench bench = withText("t0;");
        bench.run();
        bench.type('e');
        bench.undo();
        due("count(9) of what was typed on", bench.count(9), 4);
        due("fault()", bench.fault(), 4);
        bench.turn(0);
        bench.clearText();
        bench.undo();
        due("count(9) of what was cleared", bench.count(9), 0);
    }
}
