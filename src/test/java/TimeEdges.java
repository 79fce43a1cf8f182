/** pass(), await() and mark(): promises 12 to 14, and when events are written. */
final class TimeEdges extends Edges {
    private static final String PASS = "Promise 12: pass";
    private static final String AWAIT = "Promise 13: await";
    private static final String MARK = "Promise 14: mark";
    private static final String GLASSES = "Glasses";
    private static final String EVENTS = "an event is written if it has run out in this second (its"
            + " last unit went below), or has become stuck in it";
    private static final int[] NO_SECONDS = {0, 1000, -1, -999, LEAST_INT, GREATEST_INT};

    /** A bench with one glass of one unit that has run out so often, a second each. */
    private static SandBench withEvents(int events) {
        SandBench bench = single(1);
        for (int i = 0; i < events; i++) {
            bench.turn(0);
            bench.pass(1);
        }
        return bench;
    }

    void passTooFewOrTooManySeconds() {
        says(PASS, "1 to 999");
        SandBench bench = sticky(12, 9);
        for (int seconds : NO_SECONDS) {
            refused(bench, BAD, "pass(" + seconds + ")", () -> bench.pass(seconds));
        }
        due("pass(1)", bench.pass(1), 0);
        due("time", bench.count(2), 1);
        due("pass(999)", bench.pass(999), 1);
        due("time", bench.count(2), 1000);
    }

    void passToTheEndOfTime() {
        says(PASS, "Returns the number of events in them; BAD; FULL if the time would be above"
                + " 9999.");
        SandBench bench = at(9998);
        refused(bench, FULL, "pass(2)", () -> bench.pass(2));
        refused(bench, FULL, "pass(999)", () -> bench.pass(999));
        due("pass(1)", bench.pass(1), 0);
        due("time", bench.count(2), 9999);
        refused(bench, FULL, "pass(1)", () -> bench.pass(1));
    }

    void longPassToTheEndOfTime() {
        says(PASS, "FULL if the time would be above 9999");
        SandBench bench = at(9001);
        refused(bench, FULL, "pass(999)", () -> bench.pass(999));
        due("pass(998)", bench.pass(998), 0);
        due("time", bench.count(2), 9999);
        SandBench earlier = at(9000);
        due("pass(999)", earlier.pass(999), 0);
        due("time", earlier.count(2), 9999);
    }

    void passOfTooMuchMovesNoSand() {
        says(PASS, "FULL if the time would be above 9999");
        SandBench bench = at(9998);
        bench.turn(2);
        refused(bench, FULL, "pass(2)", () -> bench.pass(2));
        due("above", bench.glass(2, 1), 8);
        due("pass(1)", bench.pass(1), 0);
        due("above behind the last second", bench.glass(2, 1), 7);
        due("it runs still", bench.glass(2, 7), 1);
    }

    void badSecondsAtTheEndOfTime() {
        says(PASS, "BAD; FULL if the time would be above 9999");
        SandBench bench = at(9999);
        for (int seconds : NO_SECONDS) {
            refused(bench, BAD, "pass(" + seconds + ")", () -> bench.pass(seconds));
        }
    }

    void greatestTime() {
        says(GLASSES, "Time is an integer, 0 at first, at most 9999.");
        SandBench bench = new SandBench();
        due("time", bench.count(2), 0);
        passUntil(bench, 9999);
        due("time", bench.count(2), 9999);
        due("pass(1)", bench.pass(1), FULL);
        due("time", bench.count(2), 9999);
        bench.undo();
        due("time behind undo()", bench.count(2), 9990);
        due("pass(9)", bench.pass(9), 0);
    }

    void passWithNoneToThreeEvents() {
        says(PASS, "Returns the number of events in them");
        SandBench bench = new SandBench();
        due("with nothing running", bench.pass(999), 0);
        bench.turn(0);
        bench.turn(1);
        bench.turn(2);
        due("ahead of the first", bench.pass(2), 0);
        due("the second of the first", bench.pass(1), 1);
        due("both others", bench.pass(5), 2);
        due("behind the last", bench.pass(999), 0);
        for (int g = 0; g < 3; g++) {
            bench.turn(g);
        }
        due("all three", bench.pass(8), 3);
    }

    void awaitWithNothingRunning() {
        says(AWAIT, "Returns the number of seconds; STATE if no glass runs; FULL if the time would"
                + " be above 9999.");
        SandBench bench = new SandBench();
        refused(bench, STATE, "await() with all sand below", bench::await);
        bench.setKind(0, 2, 3);
        bench.turn(0);
        refused(bench, STATE, "await() with a lying glass", bench::await);
        bench.setKind(1, 1, 1);
        bench.turn(1);
        bench.pass(1);
        refused(bench, STATE, "await() with a stuck glass", bench::await);
        bench.turn(2);
        bench.pass(8);
        refused(bench, STATE, "await() with an empty glass", bench::await);
        bench.tap(1);
        due("await() with a tapped glass", bench.await(), 1);
    }

    void awaitAtTheEndOfTime() {
        says(AWAIT, "FULL if the time would be above 9999");
        SandBench bench = at(9995);
        bench.turn(1);
        refused(bench, FULL, "await()", bench::await);
        due("above", bench.glass(1, 1), 5);
        bench = at(9994);
        bench.turn(1);
        due("await()", bench.await(), 5);
        event(bench, 0, 9999, 1, 0);
    }

    void awaitBehindTheLastSecond() {
        says("Errors", "If several errors apply, the one that comes first in this list is"
                + " returned.");
        SandBench bench = at(9999);
        refused(bench, STATE, "await() with nothing running", bench::await);
        bench.setAmount(0, 1);
        bench.turn(0);
        refused(bench, FULL, "await() with a unit above", bench::await);
    }

    void awaitOfAStickingAtTheEndOfTime() {
        says(AWAIT, "Lets time pass up to the end of the first second in which there is an event.");
        SandBench bench = at(9996);
        bench.setKind(2, 1, 3);
        bench.turn(2);
        due("await()", bench.await(), 3);
        event(bench, 0, 9999, 2, 1);
        bench.tap(2);
        refused(bench, FULL, "await() of the next", bench::await);
    }

    void awaitTheFirst() {
        says(AWAIT, "the first second in which there is an event");
        SandBench bench = new SandBench();
        bench.setKind(2, 1, 4);
        for (int g = 0; g < 3; g++) {
            bench.turn(g);
        }
        due("await() of a short glass", bench.await(), 3);
        due("await() of a sticking", bench.await(), 1);
        due("await() of a long glass", bench.await(), 1);
        refused(bench, STATE, "await() behind the last", bench::await);
    }

    void awaitSeveralAtOnce() {
        says(AWAIT, "up to the end of the first second");
        SandBench bench = new SandBench();
        bench.setAmount(1, 3);
        bench.turn(0);
        bench.turn(1);
        due("await()", bench.await(), 3);
        due("events", bench.count(4), 2);
        refused(bench, STATE, "await() again", bench::await);
    }

    void awaitTheLeastAndTheMostSeconds() {
        says(AWAIT, "Returns the number of seconds");
        for (int units = 1; units <= 12; units += 11) {
            SandBench bench = single(units);
            bench.turn(0);
            due("await()", bench.await(), units);
            due("time", bench.count(2), units);
        }
    }

    void markBefore() {
        says(MARK, "Returns the time of the mark before; NONE if there was none.");
        SandBench bench = new SandBench();
        due("mark()", bench.mark(), NONE);
        due("mark() with a mark at 0", bench.mark(), 0);
        bench.pass(1);
        due("mark() a second behind it", bench.mark(), 0);
        due("mark()", bench.mark(), 1);
        bench = at(9999);
        due("first mark() at the end of time", bench.mark(), NONE);
        due("mark()", bench.mark(), 9999);
    }

    void noMarkAtFirst() {
        says("Spans", "A mark can be set at the present time; there is none at first.");
        SandBench bench = new SandBench();
        due("count(3)", bench.count(3), NONE);
        bench.pass(5);
        due("count(3)", bench.count(3), NONE);
        bench.mark();
        due("count(3)", bench.count(3), 0);
        bench.undo();
        due("count(3) behind undo()", bench.count(3), NONE);
        due("mark() anew", bench.mark(), NONE);
    }

    void markFromTheBeginningToTheEnd() {
        says(MARK, "Sets the mark at the present time.");
        SandBench bench = new SandBench();
        bench.mark();
        passUntil(bench, 9999);
        due("count(3)", bench.count(3), 9999);
        due("mark()", bench.mark(), 0);
        due("count(3)", bench.count(3), 0);
    }

    void eventOfTheLastUnit() {
        says(GLASSES, "In each second that passes, the glasses run all at once, then the time"
                + " increases by 1; then for each glass, by ascending numbers, " + EVENTS + ".");
        SandBench bench = single(2);
        bench.turn(0);
        due("pass(1)", bench.pass(1), 0);
        due("pass(1)", bench.pass(1), 1);
        event(bench, 0, 2, 0, 0);
        due("pass(1) of an empty glass", bench.pass(1), 0);
    }

    void noEventOfSandThatIsTurnedAway() {
        says(GLASSES, EVENTS);
        SandBench bench = new SandBench();
        bench.turn(0);
        bench.turn(0);
        bench.setAmount(1, 1);
        bench.turn(1);
        bench.setAmount(1, 1);
        due("pass(99)", bench.pass(99), 0);
        due("count(4)", bench.count(4), 0);
    }

    void eventsByAscendingNumbers() {
        says(GLASSES, "then for each glass, by ascending numbers");
        SandBench bench = new SandBench();
        bench.setAmount(0, 4);
        bench.setAmount(2, 4);
        bench.setKind(1, 1, 4);
        for (int g = 2; g >= 0; g--) {
            bench.turn(g);
        }
        due("pass(4)", bench.pass(4), 3);
        event(bench, 0, 4, 2, 0);
        event(bench, 1, 4, 1, 1);
        event(bench, 2, 4, 0, 0);
    }

    void eventTimeIsBehindTheSecond() {
        says(GLASSES, "An event has a time (that behind the second), a glass, and a kind: 0 for run"
                + " out, 1 for stuck.");
        SandBench bench = single(1);
        bench.turn(0);
        bench.pass(1);
        event(bench, 0, 1, 0, 0);
        passUntil(bench, 9998);
        bench.turn(0);
        bench.pass(1);
        event(bench, 0, 9999, 0, 0);
    }

    void fullListOfEvents() {
        says(GLASSES, "The list keeps the latest 12 events.");
        for (int events = 0; events <= 30; events++) {
            SandBench bench = withEvents(events);
            int listed = Math.min(events, 12);
            due("count(4)", bench.count(4), events);
            due("count(5) of " + events, bench.count(5), listed);
            for (int i = 0; i < listed; i++) {
                event(bench, i, events - i, 0, 0);
            }
            due("event(" + listed + ", 0)", bench.event(listed, 0), NONE);
        }
    }

    void severalEventsIntoAFullList() {
        says(GLASSES, "The list keeps the latest 12 events");
        SandBench bench = withEvents(11);
        bench.setGlasses(3);
        for (int g = 0; g < 3; g++) {
            bench.setAmount(g, 2);
            bench.turn(g);
        }
        due("pass(2)", bench.pass(2), 3);
        due("count(4)", bench.count(4), 14);
        due("count(5)", bench.count(5), 12);
        for (int i = 0; i < 3; i++) {
            event(bench, i, 13, 2 - i, 0);
        }
        event(bench, 3, 11, 0, 0);
        event(bench, 11, 3, 0, 0);
        due("event(12, 0)", bench.event(12, 0), NONE);
    }

    void undoOfAFullListOfEvents() {
        says(GLASSES, "The list keeps the latest 12 events");
        SandBench bench = withEvents(12);
        bench.turn(0);
        bench.pass(1);
        event(bench, 0, 13, 0, 0);
        event(bench, 11, 2, 0, 0);
        bench.undo();
        due("count(4)", bench.count(4), 12);
        due("count(5)", bench.count(5), 12);
        for (int i = 0; i < 12; i++) {
            event(bench, i, 12 - i, 0, 0);
        }
    }
}
