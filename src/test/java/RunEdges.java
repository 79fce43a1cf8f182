/** run(): promise 15, and what a script does. */
final class RunEdges extends Edges {
    private static final String RUN = "Promise 15: run";
    private static final String TEXT = "Text";
    private static final String ENDS_EARLY = "A script ends early, behind the step before, if a"
            + " step \"w\" or \"e\" as a whole would make the time exceed 9999 (no second of it"
            + " passes then";

    private void runs(SandBench bench, String text, int want) {
        retype(bench, text);
        due("run() of '" + text + "'", bench.run(), want);
    }

    /** A new bench at a time, with a glass just turned. */
    private static SandBench runningAt(int glass, int time) {
        SandBench bench = at(time);
        bench.turn(glass);
        return bench;
    }

    void runOfAFault() {
        says(RUN, "Returns the number of steps that were done; STATE if the text has a fault.");
        for (String text : new String[] {"x", "t", "t0", "t0;x", "t0;t3;", "k0;w0;", "t0;0(e;);",
            "t0;1(1(1(e;););););", "t0;w100;", "t0;)", "t0;1(e;", "e;".repeat(29) + "e"}) {
            SandBench bench = withText(text);
            refused(bench, STATE, "run() of '" + text + "'", bench::run);
        }
    }

    void runOfAGlassThatIsNoMore() {
        says(RUN, "STATE if the text has a fault");
        SandBench bench = withText("t0;t2;");
        due("run() with three glasses", bench.run(), 2);
        bench.setGlasses(2);
        refused(bench, STATE, "run() with two glasses", bench::run);
    }

    void runOfNothing() {
        says(RUN, "Returns the number of steps that were done");
        for (String text : new String[] {"", "   ", "1();", "20(20();20(););"}) {
            SandBench bench = new SandBench();
            runs(bench, text, 0);
            due("time", bench.count(2), 0);
            due("states", bench.count(8), 1);
        }
    }

    void runOfAFullText() {
        says(TEXT, "There is a text of at most 60 bytes");
        SandBench bench = new SandBench();
        runs(bench, "t0;".repeat(20), 20);
        due("turns", bench.count(6), 20);
        runs(bench, "k2;".repeat(19) + "t1;", 20);
        due("the last step is done", bench.glass(1, 1), 5);
    }

    void textStays() {
        says(RUN, "Runs the script of the text, which stays.");
        SandBench bench = withText("t0;w1;");
        due("run()", bench.run(), 2);
        due("count(9)", bench.count(9), 6);
        due("run() again", bench.run(), 2);
        due("turns", bench.count(6), 2);
        due("time", bench.count(2), 2);
    }

    void waitOfOneSecond() {
        says(TEXT, "\"w\" lets so many seconds pass, 1 to 99");
        SandBench bench = new SandBench();
        runs(bench, "t0;w1;", 2);
        due("time", bench.count(2), 1);
        due("above", bench.glass(0, 1), 2);
        runs(bench, "w02;", 1);
        due("time", bench.count(2), 3);
        due("events", bench.count(4), 1);
    }

    void waitOf99Seconds() {
        says(TEXT, "\"w\" lets so many seconds pass, 1 to 99");
        SandBench bench = new SandBench();
        runs(bench, "w99;", 1);
        due("time", bench.count(2), 99);
    }

    void repeatOnceAndTwentyTimes() {
        says(TEXT, "a number ahead of parentheses, 1 to 20, says how often what stands in them is"
                + " done.");
        SandBench bench = new SandBench();
        runs(bench, "1(k0;);", 1);
        due("taps", bench.count(7), 1);
        runs(bench, "20(k0;);", 20);
        due("taps", bench.count(7), 21);
        runs(bench, "2(k0;3(k1;);k0;);", 10);
        due("taps", bench.count(7), 31);
    }

    void stepsInTheirOrder() {
        says(TEXT, "says how often what stands in them is done");
        SandBench bench = new SandBench();
        // 0 runs at 0 to 1, is turned to 1 above at 1, and runs out at 2.
        runs(bench, "2(t0;w1;);k0;", 5);
        event(bench, 0, 2, 0, 0);
        due("events", bench.count(4), 1);
    }

    void waitForAnEvent() {
        says(TEXT, "\"e\" lets time pass up to the end of the first second in which there is an"
                + " event");
        SandBench bench = new SandBench();
        runs(bench, "t0;t1;t2;e;", 4);
        due("time of the first", bench.count(2), 3);
        runs(bench, "e;", 1);
        due("time of the second", bench.count(2), 5);
        runs(bench, "e;", 1);
        due("time of the third", bench.count(2), 8);
    }

    void waitForAnEventThatComesAtOnce() {
        says(TEXT, "the end of the first second in which there is an event");
        SandBench bench = single(1);
        runs(bench, "t0;e;", 2);
        due("time", bench.count(2), 1);
        due("events", bench.count(4), 1);
    }

    void waitForASticking() {
        says(TEXT, "\"e\" lets time pass up to the end of the first second in which there is an"
                + " event");
        SandBench bench = sticky(12, 2);
        runs(bench, "e;k0;e;", 3);
        due("time", bench.count(2), 4);
        due("kind", bench.event(0, 2), 1);
    }

    void waitForAnEventWithNothingRunning() {
        says(TEXT, "\"e\" lets time pass up to the end of the first second in which there is an"
                + " event, and does nothing if no glass runs (it is a step all the same)");
        SandBench empty = new SandBench();
        runs(empty, "e;", 1);
        due("time", empty.count(2), 0);
        SandBench stuck = sticky(5, 1);
        stuck.pass(1);
        runs(stuck, "e;e;k1;", 3);
        due("time with a stuck glass", stuck.count(2), 1);
        SandBench lying = new SandBench();
        lying.setKind(0, 2, 3);
        runs(lying, "t0;e;", 2);
        due("time with a lying glass", lying.count(2), 0);
    }

    void stepTurnsAStackOnce() {
        says(TEXT, "\"t\" turns the stack of a glass");
        SandBench bench = new SandBench();
        bench.fix(0, 2);
        runs(bench, "t2;", 1);
        glasses(bench, 1, 3, 0, 8);
        due("turns", bench.count(6), 1);
    }

    void stepTapsAGlass() {
        says(TEXT, "\"k\" taps it");
        SandBench bench = sticky(5, 2);
        bench.pass(4);
        due("stuck", bench.glass(0, 4), 1);
        runs(bench, "k1;", 1);
        due("still stuck", bench.glass(0, 4), 1);
        runs(bench, "k0;", 1);
        due("no more stuck", bench.glass(0, 4), 0);
        due("taps", bench.count(7), 2);
    }

    void hundredSteps() {
        says(TEXT, "at most 100 steps are done (\"t\", \"k\", \"w\" and \"e\" count): the script ends"
                + " early when one more would begin.");
        SandBench bench = new SandBench();
        runs(bench, "9(11(t0;););t1;", 100);
        due("the 100th step is done", bench.glass(1, 1), 5);
        runs(bench, "20(5(t0;););t1;", 100);
        due("the 101st is not", bench.glass(1, 1), 5);
        runs(bench, "20(6(k0;););", 100);
        due("taps", bench.count(7), 100);
    }

    void stepsThatCount() {
        says(TEXT, "at most 100 steps are done (\"t\", \"k\", \"w\" and \"e\" count)");
        for (String step : new String[] {"t0;", "k0;", "w1;", "e;"}) {
            SandBench bench = new SandBench();
            runs(bench, "9(11(" + step + "););t2;t1;", 100);
            due("the 100th step of '" + step + "'", bench.glass(2, 1), 8);
            due("the 101st step of '" + step + "'", bench.glass(1, 1), 0);
        }
    }

    void hundredStepsWithinParentheses() {
        says(TEXT, "the script ends early when one more would begin");
        SandBench bench = new SandBench();
        runs(bench, "20(7(k0;);k1;w1;);t1;", 100);
        // 11 times 9 steps, then one of the 12th time.
        due("time", bench.count(2), 11);
        due("taps", bench.count(7), 89);
        due("turns", bench.count(6), 0);
    }

    void numbersAndParenthesesAreNoSteps() {
        says(TEXT, "(\"t\", \"k\", \"w\" and \"e\" count)");
        SandBench bench = new SandBench();
        runs(bench, "20(20();20(););t1;", 1);
        due("turns", bench.count(6), 1);
        runs(bench, "9(20();11(t0;););t2;t1;", 100);
        due("the 100th step is done", bench.glass(2, 1), 8);
        due("the 101st is not", bench.glass(1, 1), 5);
    }

    void waitPastTheEndOfTime() {
        says(TEXT, ENDS_EARLY);
        SandBench bench = at(9998);
        runs(bench, "k0;w2;k0;", 1);
        due("time", bench.count(2), 9998);
        due("the step before is done, none behind", bench.count(7), 1);
        runs(bench, "w1;k0;", 2);
        due("the last second", bench.count(2), 9999);
        runs(bench, "k1;w1;k0;", 1);
        due("time stays", bench.count(2), 9999);
    }

    void longWaitToTheEndOfTime() {
        says(TEXT, "no second of it passes then");
        SandBench bench = runningAt(2, 9901);
        runs(bench, "w99;", 0);
        due("time", bench.count(2), 9901);
        due("no sand went", bench.glass(2, 1), 8);
        bench = runningAt(2, 9900);
        runs(bench, "w99;", 1);
        due("time", bench.count(2), 9999);
        due("the sand went", bench.glass(2, 1), 0);
    }

    void eventPastTheEndOfTime() {
        says(TEXT, "if a step \"w\" or \"e\" as a whole would make the time exceed 9999");
        SandBench bench = runningAt(0, 9997);
        runs(bench, "k1;e;k1;", 1);
        due("time", bench.count(2), 9997);
        due("no sand went", bench.glass(0, 1), 3);
        due("events", bench.count(4), 0);
        bench = runningAt(0, 9996);
        runs(bench, "k1;e;k1;", 3);
        due("time", bench.count(2), 9999);
        event(bench, 0, 9999, 0, 0);
    }

    void stepsAtTheEndOfTime() {
        says(TEXT, "does nothing if no glass runs (it is a step all the same)");
        SandBench bench = at(9999);
        runs(bench, "e;k0;t0;k1;", 4);
        due("above", bench.glass(0, 1), 3);
        runs(bench, "e;k0;", 0);
        due("taps", bench.count(7), 2);
    }

    void repeatToTheEndOfTime() {
        says(TEXT, "what a number repeats is looked at step by step); at most 100 steps are done");
        SandBench bench = at(9990);
        runs(bench, "k0;20(w4;);k0;", 3);
        due("time", bench.count(2), 9998);
        due("taps", bench.count(7), 1);
        bench = at(9990);
        runs(bench, "2(2(k0;w3;););t0;", 7);
        due("time within parentheses", bench.count(2), 9999);
        due("taps within parentheses", bench.count(7), 4);
        due("turns", bench.count(6), 0);
    }

    void earlyEndIsAChange() {
        says("Changes", "Changes are the calls of the methods in the section \"changes\" that return"
                + " no error, also if nothing becomes different.");
        SandBench bench = at(9999);
        bench.undo();
        retype(bench, "w10;");
        int states = bench.count(8);
        long was = bench.digest();
        due("run()", bench.run(), 0);
        due("states behind it", bench.count(8), states + 1);
        due("undo()", bench.undo(), states);
        due("the digest behind undo()", bench.digest(), was);
    }
}
