/** setGlasses() to turn(): promises 5 to 10, and what glasses and stacks are. */
final class GlassEdges extends Edges {
    private static final String SET_GLASSES = "Promise 5: setGlasses";
    private static final String SET_AMOUNT = "Promise 6: setAmount";
    private static final String SET_KIND = "Promise 7: setKind";
    private static final String FIX = "Promise 8: fix";
    private static final String LOOSEN = "Promise 9: loosen";
    private static final String TURN = "Promise 10: turn";
    private static final String GLASSES = "Glasses";
    private static final int[] NO_GLASSES = {-1, 3, 4, LEAST_INT, GREATEST_INT};

    /** A bench in which much has been done to every glass. */
    private static SandBench used() {
        SandBench bench = new SandBench();
        bench.setKind(0, 1, 2);
        bench.setKind(1, 2, 9);
        bench.fix(0, 2);
        bench.mark();
        bench.turn(0);
        bench.tap(1);
        bench.pass(8);
        return bench;
    }

    void tooFewOrTooManyGlasses() {
        says(SET_GLASSES, "Returns the number before; BAD.");
        SandBench bench = used();
        for (int glasses : new int[] {0, 4, -1, -3, LEAST_INT, GREATEST_INT}) {
            refused(bench, BAD, "setGlasses(" + glasses + ")", () -> bench.setGlasses(glasses));
        }
    }

    void oneToThreeGlasses() {
        says(SET_GLASSES, "1 to 3");
        says(GLASSES, "There are 1 to 3 glasses, numbered from 0.");
        SandBench bench = new SandBench();
        int before = 3;
        for (int glasses : new int[] {1, 1, 2, 2, 3, 3, 2, 1, 3}) {
            due("setGlasses(" + glasses + ")", bench.setGlasses(glasses), before);
            due("count(0)", bench.count(0), glasses);
            due("count(1)", bench.count(1), glasses);
            due("the last glass", bench.glass(glasses - 1, 3), 3);
            due("one more", bench.glass(glasses, 3), BAD);
            before = glasses;
        }
    }

    void newGlassesHaveFiveUnits() {
        says(SET_GLASSES, "new ones have 5 units, the others keep their amounts");
        SandBench bench = new SandBench();
        bench.setAmount(0, 12);
        bench.setAmount(1, 1);
        bench.setGlasses(2);
        glasses(bench, 0, 12, 1, BAD);
        bench.setGlasses(3);
        glasses(bench, 0, 12, 1, 5);
        bench.setGlasses(1);
        glasses(bench, 0, 12, BAD, BAD);
        bench.setGlasses(3);
        glasses(bench, 0, 12, 5, 5);
    }

    void amountsStayWithAsManyGlasses() {
        says(SET_GLASSES, "the others keep their amounts");
        SandBench bench = new SandBench();
        due("setGlasses(3)", bench.setGlasses(3), 3);
        glasses(bench, 0, 3, 5, 8);
    }

    void glassesBecomePlain() {
        says(SET_GLASSES, "All become plain, each a stack of its own, with all sand below;");
        says(SET_GLASSES, "The grips become 3.");
        SandBench bench = used();
        due("stuck before", bench.glass(0, 4), 1);
        bench.setGlasses(3);
        glasses(bench, 1, 0, 0, 0);
        glasses(bench, 2, 0, 0, 0);
        glasses(bench, 3, 3, 3, 3);
        glasses(bench, 4, 0, 0, 0);
        glasses(bench, 5, 0, 1, 2);
        glasses(bench, 6, 0, 0, 0);
        glasses(bench, 7, 0, 0, 0);
    }

    void glassesThatStayBecomePlain() {
        says(SET_GLASSES, "each a stack of its own");
        SandBench bench = used();
        bench.setGlasses(1);
        bench.setKind(0, 1, 3);
        due("the stack is of one glass", bench.loosen(0), STATE);
        due("turn(0)", bench.turn(0), 3);
        bench.pass(2);
        due("its seconds are counted anew", bench.glass(0, 6), 2);
    }

    void countsStay() {
        says(SET_GLASSES, "Time, events, mark and what is counted stay, also events of glasses that"
                + " are no more.");
        SandBench bench = used();
        bench.setGlasses(1);
        // Glass 0 was stuck at 2, glass 2 ran out at 8.
        int[] counts = {1, 1, 8, 8, 2, 2, 1, 1, 8, 0};
        for (int what = 0; what < counts.length; what++) {
            due("count(" + what + ")", bench.count(what), counts[what]);
        }
        event(bench, 0, 8, 2, 0);
        event(bench, 1, 2, 0, 1);
    }

    void glassesThatAreNoMore() {
        says("Errors", "BAD: an argument is out of range, or names something that does not exist.");
        SandBench bench = new SandBench();
        bench.setGlasses(1);
        for (int g = 1; g <= 2; g++) {
            int gone = g;
            refused(bench, BAD, "setAmount", () -> bench.setAmount(gone, 5));
            refused(bench, BAD, "setKind", () -> bench.setKind(gone, 0, 3));
            refused(bench, BAD, "fix", () -> bench.fix(0, gone));
            refused(bench, BAD, "fix", () -> bench.fix(gone, 0));
            refused(bench, BAD, "loosen", () -> bench.loosen(gone));
            refused(bench, BAD, "turn", () -> bench.turn(gone));
            refused(bench, BAD, "tap", () -> bench.tap(gone));
            refused(bench, BAD, "glass", () -> bench.glass(gone, 0));
        }
        due("the glass that is there", bench.turn(0), 3);
    }

    void amountOfNoGlass() {
        says(SET_AMOUNT, "Returns the amount before; BAD.");
        SandBench bench = used();
        for (int g : NO_GLASSES) {
            refused(bench, BAD, "setAmount(" + g + ", 5)", () -> bench.setAmount(g, 5));
        }
    }

    void amountTooSmallOrTooLarge() {
        says(SET_AMOUNT, "1 to 12");
        says(GLASSES, "1 to 12 units");
        SandBench bench = used();
        for (int units : new int[] {0, 13, -1, LEAST_INT, GREATEST_INT}) {
            refused(bench, BAD, "setAmount(0, " + units + ")", () -> bench.setAmount(0, units));
        }
        int before = 8;
        for (int units = 1; units <= 12; units++) {
            due("setAmount(2, " + units + ")", bench.setAmount(2, units), before);
            due("glass(2, 0)", bench.glass(2, 0), units);
            before = units;
        }
    }

    void leastAndGreatestAmountRun() {
        says(GLASSES, "A glass has an amount of sand, 1 to 12 units, part of which is above, the"
                + " rest below; at first and when its amount is set, all of it is below.");
        for (int units : new int[] {1, 12}) {
            SandBench bench = single(units);
            due("above", bench.glass(0, 1), 0);
            due("turn(0)", bench.turn(0), units);
            due("await()", bench.await(), units);
            due("above behind it", bench.glass(0, 1), 0);
        }
    }

    void amountOfARunningGlass() {
        says(SET_AMOUNT, "Sets the amount of a glass; all of it is below then, it is not stuck, and"
                + " its count of seconds is 0.");
        SandBench bench = sticky(12, 9);
        bench.pass(5);
        due("setAmount(0, 12)", bench.setAmount(0, 12), 12);
        int[] properties = {12, 0, 1, 9, 0, 0, 0, 0};
        for (int what = 0; what < properties.length; what++) {
            due("glass(0, " + what + ")", bench.glass(0, what), properties[what]);
        }
        due("await()", bench.await(), STATE);
    }

    void amountOfAStuckGlass() {
        says(SET_AMOUNT, "it is not stuck");
        SandBench bench = sticky(12, 1);
        bench.pass(1);
        due("stuck", bench.glass(0, 4), 1);
        due("setAmount(0, 1)", bench.setAmount(0, 1), 12);
        due("not stuck", bench.glass(0, 4), 0);
        due("its count", bench.glass(0, 6), 0);
        due("turn(0)", bench.turn(0), 1);
        due("events", bench.pass(1), 1);
        due("it runs out", bench.event(0, 2), 0);
    }

    void amountOfOneGlassOfAStack() {
        says(SET_AMOUNT, "Sets the amount of a glass");
        SandBench bench = new SandBench();
        bench.fix(0, 1);
        bench.turn(0);
        bench.setAmount(0, 7);
        glasses(bench, 0, 7, 5, 8);
        glasses(bench, 1, 0, 5, 0);
        due("stacks", bench.count(1), 2);
    }

    void kindOfNoGlass() {
        says(SET_KIND, "Returns the kind before; BAD.");
        SandBench bench = used();
        for (int g : NO_GLASSES) {
            refused(bench, BAD, "setKind(" + g + ", 0, 3)", () -> bench.setKind(g, 0, 3));
        }
    }

    void kindTooSmallOrTooLarge() {
        says(SET_KIND, "0 plain, 1 sticky, 2 lying");
        SandBench bench = used();
        for (int kind : new int[] {-1, 3, 4, LEAST_INT, GREATEST_INT}) {
            refused(bench, BAD, "setKind(0, " + kind + ", 3)", () -> bench.setKind(0, kind, 3));
        }
        int before = 0;
        for (int kind : new int[] {2, 1, 0, 0, 1, 2, 2}) {
            due("setKind(2, " + kind + ", 3)", bench.setKind(2, kind, 3), before);
            due("glass(2, 2)", bench.glass(2, 2), kind);
            before = kind;
        }
    }

    void gripTooSmallOrTooLarge() {
        says(SET_KIND, "the grip, 1 to 9 (also if it is not sticky)");
        SandBench bench = used();
        for (int kind = 0; kind <= 2; kind++) {
            int there = kind;
            for (int grip : new int[] {0, 10, -1, LEAST_INT, GREATEST_INT}) {
                refused(bench, BAD, "setKind(0, " + kind + ", " + grip + ")",
                        () -> bench.setKind(0, there, grip));
            }
            for (int grip = 1; grip <= 9; grip++) {
                bench.setKind(0, kind, grip);
                due("glass(0, 3) of kind " + kind, bench.glass(0, 3), grip);
            }
        }
    }

    void firstGripAndKind() {
        says(GLASSES, "at first it is plain");
        says(GLASSES, "A sticky glass has a grip, 1 to 9 (at first 3), and may be stuck.");
        SandBench bench = new SandBench();
        glasses(bench, 2, 0, 0, 0);
        glasses(bench, 3, 3, 3, 3);
        glasses(bench, 4, 0, 0, 0);
    }

    void sameKindAgain() {
        says(SET_KIND, "it is not stuck then, and its count of seconds is 0");
        SandBench bench = sticky(12, 2);
        bench.pass(1);
        due("count", bench.glass(0, 6), 1);
        due("setKind(0, 1, 2)", bench.setKind(0, 1, 2), 1);
        due("count of a running glass", bench.glass(0, 6), 0);
        bench.pass(2);
        due("stuck", bench.glass(0, 4), 1);
        due("setKind(0, 1, 2)", bench.setKind(0, 1, 2), 1);
        due("not stuck", bench.glass(0, 4), 0);
        due("count of a stuck glass", bench.glass(0, 6), 0);
        due("above stays", bench.glass(0, 1), 9);
        due("await()", bench.await(), 2);
    }

    void stuckGlassBecomesPlainOrLies() {
        says(SET_KIND, "Makes a glass plain, sticky, or lying; it is not stuck then");
        for (int kind = 0; kind <= 2; kind += 2) {
            SandBench bench = sticky(12, 2);
            bench.pass(3);
            due("setKind(0, " + kind + ", 1)", bench.setKind(0, kind, 1), 1);
            due("not stuck", bench.glass(0, 4), 0);
            due("above", bench.glass(0, 1), 10);
            due("runs", bench.glass(0, 7), kind == 0 ? 1 : 0);
            due("count", bench.glass(0, 6), 0);
        }
    }

    void runsOrNot() {
        says(GLASSES, "A glass runs if it has sand above, does not lie, and is not stuck.");
        SandBench bench = sticky(2, 1);
        bench.setKind(1, 2, 3);
        bench.turn(1);
        glasses(bench, 7, 1, 0, 0);
        bench.pass(1);
        glasses(bench, 7, 0, 0, 0);
        bench.tap(0);
        glasses(bench, 7, 1, 0, 0);
        bench.pass(1);
        glasses(bench, 7, 0, 0, 0);
        bench.turn(2);
        bench.setKind(1, 0, 3);
        glasses(bench, 7, 0, 1, 1);
    }

    void unitASecond() {
        says(GLASSES, "In each second a unit of it goes from above to below.");
        SandBench bench = single(12);
        bench.turn(0);
        for (int above = 12; above > 0; above--) {
            due("above", bench.glass(0, 1), above);
            bench.pass(1);
        }
        due("above at the end", bench.glass(0, 1), 0);
        bench.pass(1);
        due("above behind the end", bench.glass(0, 1), 0);
        due("the amount", bench.glass(0, 0), 12);
    }

    void fixToNoGlass() {
        says(FIX, "Returns the number of the stack; BAD; STATE if both are of one stack already.");
        SandBench bench = new SandBench();
        for (int g : NO_GLASSES) {
            refused(bench, BAD, "fix(0, " + g + ")", () -> bench.fix(0, g));
            refused(bench, BAD, "fix(" + g + ", 0)", () -> bench.fix(g, 0));
            refused(bench, BAD, "fix(" + g + ", " + g + ")", () -> bench.fix(g, g));
        }
    }

    void fixWithinAStack() {
        says(FIX, "STATE if both are of one stack already");
        SandBench bench = new SandBench();
        for (int g = 0; g < 3; g++) {
            int same = g;
            refused(bench, STATE, "fix of a glass to itself", () -> bench.fix(same, same));
        }
        bench.fix(2, 1);
        refused(bench, STATE, "fix(1, 2)", () -> bench.fix(1, 2));
        refused(bench, STATE, "fix(2, 1)", () -> bench.fix(2, 1));
        bench.fix(1, 0);
        refused(bench, STATE, "fix(0, 2) over glass 1", () -> bench.fix(0, 2));
        refused(bench, STATE, "fix(2, 0) over glass 1", () -> bench.fix(2, 0));
    }

    void numberOfAStack() {
        says(GLASSES, "The number of a stack is the least number of its glasses.");
        int[][] fixes = {{0, 1, 0}, {1, 0, 0}, {0, 2, 0}, {2, 0, 0}, {1, 2, 1}, {2, 1, 1}};
        for (int[] fix : fixes) {
            SandBench bench = new SandBench();
            due("fix(" + fix[0] + ", " + fix[1] + ")", bench.fix(fix[0], fix[1]), fix[2]);
            due("the one's stack", bench.glass(fix[0], 5), fix[2]);
            due("the other's stack", bench.glass(fix[1], 5), fix[2]);
            int third = 3 - fix[0] - fix[1];
            due("the third's stack", bench.glass(third, 5), third);
            due("fix of the third", bench.fix(third, fix[0]), 0);
            glasses(bench, 5, 0, 0, 0);
        }
    }

    void stackOfAllGlasses() {
        says(FIX, "Fixes the stack of a glass to that of another one: they become one stack.");
        SandBench bench = new SandBench();
        bench.fix(1, 2);
        due("count(1)", bench.count(1), 2);
        due("fix(0, 2)", bench.fix(0, 2), 0);
        glasses(bench, 5, 0, 0, 0);
        due("count(1)", bench.count(1), 1);
        due("turn(1)", bench.turn(1), 5);
        glasses(bench, 1, 3, 5, 8);
    }

    void fixMovesNoSand() {
        says(FIX, "they become one stack");
        int[][] fixes = {{0, 1}, {1, 0}};
        for (int[] fix : fixes) {
            SandBench bench = sticky(12, 2);
            bench.pass(2);
            bench.fix(fix[0], fix[1]);
            stuckWithTenAbove(bench);
            due("turns", bench.count(6), 1);
        }
    }

    void loosenMovesNoSand() {
        says(LOOSEN, "Makes each glass of the stack of a glass a stack of its own");
        SandBench bench = sticky(12, 2);
        bench.fix(0, 1);
        bench.pass(2);
        bench.loosen(0);
        stuckWithTenAbove(bench);
        bench.fix(0, 1);
        bench.loosen(1);
        stuckWithTenAbove(bench);
    }

    private void stuckWithTenAbove(SandBench bench) {
        due("still stuck", bench.glass(0, 4), 1);
        due("its count", bench.glass(0, 6), 2);
        glasses(bench, 1, 10, 0, 0);
    }

    void loosenNoGlass() {
        says(LOOSEN, "Returns the number of stacks then; BAD; STATE if it is a stack of its own"
                + " already.");
        SandBench bench = new SandBench();
        bench.fix(0, 1);
        for (int g : NO_GLASSES) {
            refused(bench, BAD, "loosen(" + g + ")", () -> bench.loosen(g));
        }
    }

    void loosenAGlassThatIsAlone() {
        says(LOOSEN, "STATE if it is a stack of its own already");
        SandBench bench = new SandBench();
        for (int g = 0; g < 3; g++) {
            int alone = g;
            refused(bench, STATE, "loosen(" + g + ")", () -> bench.loosen(alone));
        }
        bench.fix(0, 2);
        refused(bench, STATE, "loosen(1) beside a stack", () -> bench.loosen(1));
        SandBench single = single(5);
        refused(single, STATE, "loosen(0) of the only glass", () -> single.loosen(0));
    }

    void loosenAStack() {
        says(LOOSEN, "Makes each glass of the stack of a glass a stack of its own.");
        for (int g = 0; g < 3; g++) {
            SandBench bench = new SandBench();
            bench.fix(0, 1);
            bench.fix(1, 2);
            due("loosen(" + g + ") of three", bench.loosen(g), 3);
            glasses(bench, 5, 0, 1, 2);
            bench.fix(g, (g + 1) % 3);
            due("loosen(" + g + ") of two", bench.loosen(g), 3);
            glasses(bench, 5, 0, 1, 2);
            due("loosen(" + g + ") again", bench.loosen(g), STATE);
        }
        SandBench bench = new SandBench();
        bench.setGlasses(2);
        bench.fix(1, 0);
        due("loosen(1) of all glasses", bench.loosen(1), 2);
    }

    void firstStacks() {
        says(GLASSES, "At first each glass is a stack of its own.");
        SandBench bench = new SandBench();
        glasses(bench, 5, 0, 1, 2);
        due("count(1)", bench.count(1), 3);
    }

    void turnNoGlass() {
        says(TURN, "Returns the sand of the glass that is above then; BAD.");
        SandBench bench = used();
        for (int g : NO_GLASSES) {
            refused(bench, BAD, "turn(" + g + ")", () -> bench.turn(g));
        }
    }

    void turnFullAndEmptyGlasses() {
        says(GLASSES, "in each of its glasses, what was above is below then, and what was below is"
                + " above; no glass of it is stuck any more, and their counts of seconds are 0");
        for (int units = 1; units <= 12; units++) {
            SandBench bench = single(units);
            due("turn(0), all below", bench.turn(0), units);
            due("turn(0), all above", bench.turn(0), 0);
            due("events of sand that was turned away", bench.pass(1), 0);
            due("turn(0)", bench.turn(0), units);
            bench.pass(1);
            due("turn(0), one below", bench.turn(0), 1);
        }
    }

    void turnFreesStuckGlasses() {
        says(GLASSES, "no glass of it is stuck any more, and their counts of seconds are 0");
        SandBench bench = new SandBench();
        bench.setKind(1, 1, 2);
        bench.setKind(2, 1, 2);
        bench.fix(1, 2);
        bench.turn(1);
        bench.pass(2);
        glasses(bench, 4, 0, 1, 1);
        bench.turn(2);
        glasses(bench, 4, 0, 0, 0);
        glasses(bench, 6, 0, 0, 0);
        glasses(bench, 1, 0, 2, 2);
    }

    void turnOfAnotherStackFreesNothing() {
        says(GLASSES, "A stack is turned as a whole");
        SandBench bench = sticky(12, 2);
        bench.fix(1, 2);
        bench.pass(2);
        bench.turn(1);
        due("still stuck", bench.glass(0, 4), 1);
        due("its count", bench.glass(0, 6), 2);
        glasses(bench, 1, 10, 5, 8);
    }

    void turnOfAGlassThatLies() {
        says(TURN, "Turns the stack of a glass.");
        SandBench bench = new SandBench();
        bench.setKind(1, 2, 3);
        bench.fix(0, 1);
        due("turn(1)", bench.turn(1), 5);
        bench.pass(3);
        due("the other of its stack ran", bench.glass(0, 1), 0);
        due("turn(1) again", bench.turn(1), 0);
        due("turns", bench.count(6), 2);
    }
}
