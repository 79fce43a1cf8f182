/** tap(): promise 11, and when a glass sticks. */
final class StickEdges extends Edges {
    private static final String TAP = "Promise 11: tap";
    private static final String GLASSES = "Glasses";
    private static final String STICKS = "when it has run for as many seconds as its grip, and still"
            + " has sand above, it is stuck (and its count stays at the grip)";

    /** What has become of glass 0: sand above, stuck or not, count of seconds. */
    private void glass(SandBench bench, int above, int stuck, int seconds) {
        due("above", bench.glass(0, 1), above);
        due("stuck", bench.glass(0, 4), stuck);
        due("count of seconds", bench.glass(0, 6), seconds);
    }

    void tapNoGlass() {
        says(TAP, "Returns 1 if it was stuck, otherwise 0; BAD.");
        SandBench bench = new SandBench();
        for (int g : new int[] {-1, 3, 4, LEAST_INT, GREATEST_INT}) {
            refused(bench, BAD, "tap(" + g + ")", () -> bench.tap(g));
        }
    }

    void tapStuckOrNot() {
        says(TAP, "Returns 1 if it was stuck, otherwise 0");
        SandBench bench = sticky(12, 2);
        due("tap of a glass that has just been turned", bench.tap(0), 0);
        bench.pass(1);
        due("tap a second before it sticks", bench.tap(0), 0);
        glass(bench, 11, 0, 0);
        bench.pass(2);
        due("tap of a stuck glass", bench.tap(0), 1);
        glass(bench, 9, 0, 0);
        due("tap again", bench.tap(0), 0);
        due("tap of a plain glass", bench.tap(1), 0);
        bench.setKind(2, 2, 3);
        due("tap of a lying glass", bench.tap(2), 0);
        due("taps", bench.count(7), 6);
    }

    void tapOneGlassOfAStack() {
        says(TAP, "Taps a glass: it is not stuck any more, and its count of seconds is 0.");
        SandBench bench = new SandBench();
        bench.setKind(1, 1, 2);
        bench.setKind(2, 1, 2);
        bench.fix(1, 2);
        bench.turn(1);
        bench.pass(2);
        due("tap(2)", bench.tap(2), 1);
        glasses(bench, 4, 0, 1, 0);
        glasses(bench, 6, 0, 2, 0);
        due("await()", bench.await(), 2);
        event(bench, 0, 4, 2, 1);
        due("events", bench.count(4), 3);
    }

    void tapMovesNoSand() {
        says(TAP, "Taps a glass");
        SandBench bench = sticky(12, 2);
        bench.pass(2);
        bench.tap(0);
        due("above", bench.glass(0, 1), 10);
        due("time", bench.count(2), 2);
        due("events", bench.count(4), 1);
    }

    void gripBelowTheAmount() {
        says(GLASSES, "A sticky glass counts the seconds in which it has run since it was turned,"
                + " tapped, or made sticky the last time; " + STICKS + ".");
        SandBench bench = sticky(5, 4);
        due("pass(3)", bench.pass(3), 0);
        glass(bench, 2, 0, 3);
        due("pass(1)", bench.pass(1), 1);
        event(bench, 0, 4, 0, 1);
        glass(bench, 1, 1, 4);
        due("pass(999)", bench.pass(999), 0);
        glass(bench, 1, 1, 4);
        due("tap(0)", bench.tap(0), 1);
        due("pass(999)", bench.pass(999), 1);
        event(bench, 0, 1004, 0, 0);
        glass(bench, 0, 0, 1);
    }

    void gripOfTheAmount() {
        says(GLASSES, "and still has sand above");
        for (int units = 1; units <= 9; units++) {
            SandBench bench = sticky(units, units);
            due("pass(20)", bench.pass(20), 1);
            event(bench, 0, units, 0, 0);
            glass(bench, 0, 0, units);
        }
    }

    void gripAboveTheAmount() {
        says(GLASSES, "and still has sand above, it is stuck");
        SandBench bench = sticky(8, 9);
        due("pass(20)", bench.pass(20), 1);
        event(bench, 0, 8, 0, 0);
        glass(bench, 0, 0, 8);
    }

    void leastGrip() {
        says(GLASSES, "A sticky glass has a grip, 1 to 9");
        SandBench bench = sticky(12, 1);
        for (int above = 11; above > 0; above--) {
            due("await()", bench.await(), 1);
            glass(bench, above, 1, 1);
            due("tap(0)", bench.tap(0), 1);
        }
        due("await()", bench.await(), 1);
        glass(bench, 0, 0, 1);
        due("events", bench.count(4), 12);
    }

    void greatestGrip() {
        says(GLASSES, "A sticky glass has a grip, 1 to 9");
        SandBench bench = sticky(12, 9);
        due("await()", bench.await(), 9);
        glass(bench, 3, 1, 9);
        due("turn(0)", bench.turn(0), 9);
        glass(bench, 9, 0, 0);
        due("await()", bench.await(), 9);
        glass(bench, 0, 0, 9);
        due("kind", bench.event(0, 2), 0);
    }

    void countSinceTheTurn() {
        says(GLASSES, "since it was turned, tapped, or made sticky the last time");
        SandBench bench = sticky(12, 4);
        bench.pass(3);
        bench.turn(0);
        bench.turn(0);
        glass(bench, 9, 0, 0);
        due("pass(3)", bench.pass(3), 0);
        glass(bench, 6, 0, 3);
        due("pass(1)", bench.pass(1), 1);
    }

    void countSinceItWasMadeSticky() {
        says(GLASSES, "made sticky the last time");
        SandBench bench = single(12);
        bench.turn(0);
        bench.pass(5);
        bench.setKind(0, 1, 2);
        glass(bench, 7, 0, 0);
        bench.pass(1);
        glass(bench, 6, 0, 1);
        bench.setKind(0, 1, 1);
        glass(bench, 6, 0, 0);
        due("pass(1)", bench.pass(1), 1);
        glass(bench, 5, 1, 1);
    }

    void onlySecondsInWhichItRan() {
        says(GLASSES, "counts the seconds in which it has run");
        SandBench bench = new SandBench();
        bench.setKind(0, 1, 2);
        bench.turn(2);
        bench.pass(8);
        glass(bench, 0, 0, 0);
        bench.turn(0);
        bench.pass(1);
        bench.turn(0);
        // One unit was below: it runs out, and no second is counted behind that.
        bench.pass(9);
        glass(bench, 0, 0, 1);
    }

    void plainGlassCountsNothing() {
        says("Promise 17: glass", "6 for its count of seconds (0 if it is not sticky)");
        SandBench bench = single(12);
        bench.turn(0);
        bench.pass(9);
        glass(bench, 3, 0, 0);
        bench.setKind(0, 2, 1);
        bench.pass(9);
        glass(bench, 3, 0, 0);
    }

    void allGlassesStickAtOnce() {
        says("Glasses", "the glasses run all at once, then the time increases by 1");
        SandBench bench = new SandBench();
        for (int g = 0; g < 3; g++) {
            bench.setKind(g, 1, 2);
            bench.turn(g);
        }
        due("pass(999)", bench.pass(999), 3);
        for (int i = 0; i < 3; i++) {
            event(bench, i, 2, 2 - i, 1);
        }
        refused(bench, STATE, "await()", bench::await);
    }
}
