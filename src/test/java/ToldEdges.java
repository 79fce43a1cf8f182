import java.math.BigInteger;
import java.util.ArrayList;
import java.util.List;

/** glass(), event(), count() and digest(): promises 17, 18, 22 and 23. */
final class ToldEdges extends Edges {
    private static final String GLASS = "Promise 17: glass";
    private static final String EVENT = "Promise 18: event";
    private static final String COUNT = "Promise 22: count";
    private static final String DIGEST = "Promise 23: digest";

    void propertyOfNoGlass() {
        says(GLASS, "Returns the property; BAD.");
        SandBench bench = new SandBench();
        for (int g : new int[] {-1, 3, 4, LEAST_INT, GREATEST_INT}) {
            for (int what = -1; what <= 8; what++) {
                due("glass(" + g + ", " + what + ")", bench.glass(g, what), BAD);
            }
        }
        bench.setGlasses(1);
        due("glass(1, 0) of one glass", bench.glass(1, 0), BAD);
        due("glass(0, 0) of one glass", bench.glass(0, 0), 3);
    }

    void noProperty() {
        says(GLASS, "Returns the property; BAD");
        SandBench bench = new SandBench();
        for (int what : new int[] {-1, 8, 9, LEAST_INT, GREATEST_INT}) {
            for (int g = 0; g < 3; g++) {
                due("glass(" + g + ", " + what + ")", bench.glass(g, what), BAD);
            }
        }
    }

    void firstAndLastProperty() {
        says(GLASS, "0 for its amount, 1 for the sand above, 2 for its kind, 3 for its grip, 4 for 1"
                + " if it is stuck, else 0, 5 for its stack, 6 for its count of seconds (0 if it is"
                + " not sticky), 7 for 1 if it runs, else 0");
        SandBench bench = new SandBench();
        bench.setAmount(2, 12);
        bench.setKind(2, 1, 9);
        bench.fix(2, 1);
        bench.turn(1);
        bench.pass(8);
        int[] running = {12, 4, 1, 9, 0, 1, 8, 1};
        for (int what = 0; what < running.length; what++) {
            due("running: glass(2, " + what + ")", bench.glass(2, what), running[what]);
        }
        bench.pass(1);
        int[] stuck = {12, 3, 1, 9, 1, 1, 9, 0};
        for (int what = 0; what < stuck.length; what++) {
            due("stuck: glass(2, " + what + ")", bench.glass(2, what), stuck[what]);
        }
    }

    void runsIsOneOrZero() {
        says(GLASS, "7 for 1 if it runs, else 0");
        SandBench bench = single(2);
        due("below", bench.glass(0, 7), 0);
        bench.turn(0);
        due("turned", bench.glass(0, 7), 1);
        bench.pass(1);
        due("a unit left", bench.glass(0, 7), 1);
        bench.pass(1);
        due("run out", bench.glass(0, 7), 0);
    }

    void partsOutOfRange() {
        says(EVENT, "BAD if i is negative or what is out of range");
        SandBench bench = sticky(1, 1);
        bench.pass(1);
        for (int i : new int[] {-1, -2, -12, LEAST_INT}) {
            due("event(" + i + ", 0)", bench.event(i, 0), BAD);
        }
        for (int what : new int[] {-1, 3, 4, LEAST_INT, GREATEST_INT}) {
            due("event(0, " + what + ")", bench.event(0, what), BAD);
            due("event(1, " + what + ")", bench.event(1, what), BAD);
            due("event(-1, " + what + ")", bench.event(-1, what), BAD);
        }
        event(bench, 0, 1, 0, 0);
    }

    void eventsThatAreNotThere() {
        says(EVENT, "NONE if there are not so many");
        SandBench bench = single(1);
        for (int events = 0; events <= 14; events++) {
            int listed = Math.min(events, 12);
            for (int what = 0; what <= 2; what++) {
                due("event one too early", bench.event(listed, what), NONE);
                due("event(13, " + what + ")", bench.event(13, what), NONE);
                due("a far event", bench.event(GREATEST_INT, what), NONE);
            }
            due("the latest", bench.event(0, 0), events == 0 ? NONE : events);
            bench.turn(0);
            bench.pass(1);
        }
    }

    void eventsFromTheLatest() {
        says(EVENT, "how many events in the list are later, from 0");
        says(EVENT, "0 for its time, 1 for its glass, 2 for its kind");
        SandBench bench = new SandBench();
        bench.setKind(1, 1, 4);
        for (int g = 0; g < 3; g++) {
            bench.turn(g);
        }
        due("pass(8)", bench.pass(8), 3);
        event(bench, 0, 8, 2, 0);
        event(bench, 1, 4, 1, 1);
        event(bench, 2, 3, 0, 0);
    }

    void noCount() {
        says(COUNT, "Returns the number; BAD.");
        SandBench bench = new SandBench();
        for (int what : new int[] {-1, 10, 11, LEAST_INT, GREATEST_INT}) {
            due("count(" + what + ")", bench.count(what), BAD);
        }
    }

    void timeSinceTheMark() {
        says(COUNT, "3 for the time since the mark (NONE without one)");
        SandBench bench = new SandBench();
        due("without a mark", bench.count(3), NONE);
        bench.mark();
        due("at the mark", bench.count(3), 0);
        bench.pass(1);
        due("a second behind it", bench.count(3), 1);
        bench.undo();
        due("at the mark again", bench.count(3), 0);
        bench.undo();
        due("without a mark again", bench.count(3), NONE);
    }

    void firstAndLastCount() {
        says(COUNT, "0 for the number of glasses, 1 for that of stacks, 2 for the time, 3 for the"
                + " time since the mark (NONE without one), 4 for the number of events ever (undo()"
                + " restores it, too), 5 for that of events in the list, 6 for how often stacks were"
                + " turned (by turn() and by scripts, a whole stack once), 7 for how often glasses"
                + " were tapped, 8 for the number of states in the history, 9 for the length of the"
                + " text");
        SandBench bench = withText("20(t1;w1;);");
        bench.setAmount(1, 1);
        bench.fix(0, 2);
        bench.pass(20);
        bench.mark();
        bench.run();
        bench.tap(0);
        int[] counts = {3, 2, 40, 20, 20, 12, 20, 1, 6, 11};
        for (int what = 0; what < counts.length; what++) {
            due("count(" + what + ")", bench.count(what), counts[what]);
        }
    }

    void countsOfEvents() {
        says(COUNT, "4 for the number of events ever (undo() restores it, too)");
        SandBench bench = single(1);
        for (int events = 1; events <= 14; events++) {
            bench.turn(0);
            bench.pass(1);
            due("count(4)", bench.count(4), events);
            due("count(5)", bench.count(5), Math.min(events, 12));
        }
        bench.undo();
        due("count(4) behind undo()", bench.count(4), 13);
        due("count(5) behind undo()", bench.count(5), 12);
        bench.undo();
        bench.undo();
        bench.undo();
        due("count(4) behind undo()", bench.count(4), 12);
        bench.undo();
        bench.undo();
        due("count(4) behind undo()", bench.count(4), 11);
        due("count(5) behind undo()", bench.count(5), 11);
    }

    void countsOfStacks() {
        says(COUNT, "1 for that of stacks");
        SandBench bench = new SandBench();
        due("three", bench.count(1), 3);
        bench.fix(1, 2);
        due("two", bench.count(1), 2);
        bench.fix(0, 1);
        due("one", bench.count(1), 1);
        bench.loosen(2);
        due("three", bench.count(1), 3);
        bench.setGlasses(1);
        due("one", bench.count(1), 1);
    }

    void countsOfTurnsAndTaps() {
        says(COUNT, "6 for how often stacks were turned (by turn() and by scripts, a whole stack"
                + " once), 7 for how often glasses were tapped");
        SandBench bench = withText("2(t1;k0;);");
        bench.fix(0, 1);
        bench.fix(1, 2);
        bench.turn(2);
        bench.tap(2);
        due("turns", bench.count(6), 1);
        due("taps", bench.count(7), 1);
        bench.run();
        due("turns with those of a script", bench.count(6), 3);
        due("taps with those of a script", bench.count(7), 3);
        bench.turn(3);
        bench.tap(3);
        due("turns without a refused one", bench.count(6), 3);
        due("taps without a refused one", bench.count(7), 3);
        bench.undo();
        due("turns behind undo()", bench.count(6), 1);
        due("taps behind undo()", bench.count(7), 1);
    }

    void countsOfStatesAndBytes() {
        says(COUNT, "8 for the number of states in the history, 9 for the length of the text");
        SandBench bench = new SandBench();
        for (int i = 1; i <= 62; i++) {
            bench.mark();
            bench.type('e');
            due("count(8)", bench.count(8), Math.min(i, 8));
            due("count(9)", bench.count(9), Math.min(i, 60));
        }
        bench.undo();
        due("count(8) behind undo()", bench.count(8), 7);
        due("count(9) behind undo()", bench.count(9), 60);
    }

    void digestOfANewBench() {
        says(DIGEST, "It begins with h = 139; for each of the following numbers v, in this order, h"
                + " becomes 31 * h + v, in long arithmetic with overflow: count(0) to count(9); for"
                + " each glass, glass(g, 0) to glass(g, 7); for each event of the list, from the"
                + " latest on, event(i, 0) to event(i, 2); cost() of the spans 1 to 20;"
                + " measurable(-1, 3); the bytes of the text.");
        int[] numbers = {3, 3, 0, NONE, 0, 0, 0, 0, 0, 0,
            3, 0, 0, 3, 0, 0, 0, 0, 5, 0, 0, 3, 0, 1, 0, 0, 8, 0, 0, 3, 0, 2, 0, 0};
        List<Integer> all = new ArrayList<>();
        for (int number : numbers) {
            all.add(number);
        }
        SandBench bench = new SandBench();
        addPlans(bench, all);
        due("digest()", bench.digest(), digestOf(all));
        due("digest() again", bench.digest(), digestOf(all));
    }

    void digestOfAFullBench() {
        says(DIGEST, "in long arithmetic with overflow");
        SandBench bench = single(1);
        for (int i = 0; i < 14; i++) {
            bench.turn(0);
            bench.pass(1);
        }
        bench.setGlasses(3);
        bench.mark();
        String text = "\0\177" + "e".repeat(58);
        retype(bench, text);
        List<Integer> all = new ArrayList<>(List.of(3, 3, 14, 0, 14, 12, 14, 0, 8, 60,
                1, 0, 0, 3, 0, 0, 0, 0, 5, 0, 0, 3, 0, 1, 0, 0, 5, 0, 0, 3, 0, 2, 0, 0));
        for (int i = 0; i < 12; i++) {
            all.addAll(List.of(14 - i, 0, 0));
        }
        addPlans(bench, all);
        for (int i = 0; i < text.length(); i++) {
            all.add((int) text.charAt(i));
        }
        due("digest()", bench.digest(), digestOf(all));
    }

    void digestOfOneGlass() {
        says(DIGEST, "for each glass, glass(g, 0) to glass(g, 7)");
        SandBench bench = single(12);
        List<Integer> all = new ArrayList<>(List.of(1, 1, 0, NONE, 0, 0, 0, 0, 2, 0,
                12, 0, 0, 3, 0, 0, 0, 0));
        addPlans(bench, all);
        due("digest()", bench.digest(), digestOf(all));
    }

    void digestWithoutAPlan() {
        says(DIGEST, "cost() of the spans 1 to 20");
        SandBench bench = single(12);
        bench.setKind(0, 2, 1);
        List<Integer> all = new ArrayList<>(List.of(1, 1, 0, NONE, 0, 0, 0, 0, 3, 0,
                12, 0, 2, 1, 0, 0, 0, 0));
        for (int span = 1; span <= 20; span++) {
            all.add(NONE);
        }
        all.add(0);
        due("digest()", bench.digest(), digestOf(all));
    }

    private static void addPlans(SandBench bench, List<Integer> all) {
        for (int span = 1; span <= 20; span++) {
            all.add(bench.cost(span));
        }
        all.add(bench.measurable(-1, 3));
    }

    /** Without overflow: the least 64 bits are taken at the end. */
    private static long digestOf(List<Integer> numbers) {
        BigInteger h = BigInteger.valueOf(139);
        for (int number : numbers) {
            h = h.multiply(BigInteger.valueOf(31)).add(BigInteger.valueOf(number));
        }
        return h.longValue();
    }
}
