import java.util.ArrayList;
import java.util.List;

/** cost(), planned() and measurable(): promises 19 to 21, and what plans are. */
final class PlanEdges extends Edges {
    private static final String COST = "Promise 19: cost";
    private static final String PLANNED = "Promise 20: planned";
    private static final String MEASURABLE = "Promise 21: measurable";
    private static final String SPANS = "Spans";
    private static final int[] NO_SPANS = {0, 41, 42, -1, -40, LEAST_INT, GREATEST_INT};

    /** All steps of a plan, and that there is none behind them. */
    private void plan(SandBench bench, int span, int[] sets, int[] seconds) {
        for (int i = 0; i < sets.length; i++) {
            due("set " + i + " of " + span, bench.planned(span, i, true), sets[i]);
            due("seconds " + i + " of " + span, bench.planned(span, i, false), seconds[i]);
        }
        noStep(bench, span, sets.length);
    }

    private void noStep(SandBench bench, int span, int i) {
        due("no set " + i + " of " + span, bench.planned(span, i, true), NONE);
        due("no seconds " + i + " of " + span, bench.planned(span, i, false), NONE);
    }

    /** The costs of the spans from 1 on. */
    private void costs(SandBench bench, int... want) {
        for (int span = 1; span <= want.length; span++) {
            due("cost(" + span + ")", bench.cost(span), want[span - 1]);
        }
    }

    void costOfNoSpan() {
        says(COST, "1 to 40");
        says(COST, "Returns the cost; BAD; NONE if no plan comes to its goal.");
        for (int span : NO_SPANS) {
            due("cost(" + span + ")", new SandBench().cost(span), BAD);
            due("cost(" + span + ") of one unit", single(1).cost(span), BAD);
        }
    }

    void costOfTheLeastAndTheGreatestSpan() {
        says(COST, "1 to 40");
        SandBench bench = single(1);
        for (int span = 1; span <= 40; span++) {
            due("cost(" + span + ")", bench.cost(span), span);
        }
        bench.turn(0);
        for (int span = 1; span <= 40; span++) {
            due("cost(" + span + ") of what runs", bench.cost(span), span - 1);
        }
    }

    void costOfNoPlan() {
        says(COST, "NONE if no plan comes to its goal");
        for (int units = 1; units <= 12; units++) {
            SandBench bench = single(units);
            for (int span = 1; span <= 40; span++) {
                int want = span % units == 0 ? span / units : NONE;
                due("cost(" + span + ") of " + units + " units", bench.cost(span), want);
            }
        }
    }

    void noPlanWithoutARunningGlass() {
        says(SPANS, "It fails when no glass runs, or that moment is passed without one.");
        SandBench bench = new SandBench();
        for (int g = 0; g < 3; g++) {
            bench.setKind(g, 2, 3);
            bench.turn(g);
        }
        for (int span = 1; span <= 40; span++) {
            due("cost(" + span + ")", bench.cost(span), NONE);
            noStep(bench, span, 0);
        }
        due("measurable(-1, 9)", bench.measurable(-1, 9), 0);
        due("measurable(0, 9)", bench.measurable(0, 9), NONE);
        bench.setKind(1, 0, 3);
        due("cost(5) with one that runs", bench.cost(5), 0);
    }

    void nothingRunsAndNothingIsTurned() {
        says(SPANS, "It fails when no glass runs");
        SandBench bench = single(5);
        due("measurable(-1, 0) with all sand below", bench.measurable(-1, 0), 0);
        bench.turn(0);
        due("measurable(-1, 0) with all sand above", bench.measurable(-1, 0), 1);
        due("measurable(0, 0)", bench.measurable(0, 0), 5);
        due("cost(5)", bench.cost(5), 0);
        due("cost(10): it must be turned at 5", bench.cost(10), 1);
    }

    void momentPassedWithoutARunOut() {
        says(SPANS, "or that moment is passed without one");
        SandBench bench = new SandBench();
        bench.turn(2);
        // Nothing can be turned at 3 to 7: no moment lies there.
        costs(bench, NONE, NONE, 1, NONE, 1, 2, 4, 0);
        due("measurable(-1, 0)", bench.measurable(-1, 0), 1);
    }

    void goalAsSoonAsAGlassRunsOut() {
        says(SPANS, "The plan is at its goal as soon as a glass runs out exactly n seconds after its"
                + " beginning.");
        SandBench bench = single(12);
        bench.turn(0);
        bench.pass(11);
        costs(bench, 0, NONE, NONE, NONE, NONE, NONE, NONE, NONE, NONE, NONE, 1, NONE, 1);
        plan(bench, 1, new int[] {0}, new int[] {0});
        plan(bench, 11, new int[] {1}, new int[] {0});
        plan(bench, 13, new int[] {0, 1}, new int[] {0, 1});
    }

    void noGlassSticksInAPlan() {
        says(SPANS, "no glass sticks in a plan, and those that are stuck run");
        SandBench bench = single(12);
        bench.setKind(0, 1, 1);
        due("cost(12), all below", bench.cost(12), 1);
        bench.turn(0);
        due("cost(12) of what would stick at once", bench.cost(12), 0);
        bench.pass(1);
        due("stuck", bench.glass(0, 4), 1);
        due("cost(11) of a stuck glass", bench.cost(11), 0);
        due("cost(1) of a stuck glass", bench.cost(1), 1);
        due("cost(12)", bench.cost(12), NONE);
        due("still stuck", bench.glass(0, 4), 1);
        bench.tap(0);
        due("cost(11) of a tapped glass", bench.cost(11), 0);
    }

    void lyingGlassesDoNotRun() {
        says(SPANS, "A plan for a span of n seconds begins with the glasses as they are now, without"
                + " regard to sticking: no glass sticks in a plan, and those that are stuck run;"
                + " glasses that lie stay so, and do not run.");
        SandBench bench = new SandBench();
        bench.turn(1);
        due("cost(5)", bench.cost(5), 0);
        bench.setKind(1, 2, 3);
        due("cost(5) of a lying glass", bench.cost(5), NONE);
        due("cost(3) of the others", bench.cost(3), 1);
        bench.fix(1, 0);
        due("cost(3) of a stack with it", bench.cost(3), 1);
        due("cost(5) of a stack with it", bench.cost(5), NONE);
        bench.setKind(0, 2, 3);
        due("cost(3) of a stack that lies", bench.cost(3), NONE);
        due("cost(8) of the third", bench.cost(8), 1);
    }

    void planBeginsWithTheGlassesAsTheyAre() {
        says(SPANS, "begins with the glasses as they are now");
        SandBench bench = single(7);
        bench.turn(0);
        for (int above = 7; above >= 1; above--) {
            due("cost(" + above + ") of so many units", bench.cost(above), 0);
            if (above != 7) {
                due("cost(" + (7 - above) + ") of what is below", bench.cost(7 - above),
                        7 - above == above ? 0 : 1);
            }
            bench.pass(1);
        }
        due("cost(7) of an empty glass", bench.cost(7), 1);
        bench.undo();
        due("cost(1) behind undo()", bench.cost(1), 0);
    }

    void plansFollowTheAmounts() {
        says(SPANS, "begins with the glasses as they are now");
        SandBench bench = new SandBench();
        for (int i = 0; i < 24; i++) {
            SandBench fresh = new SandBench();
            for (int g = 0; g < 3; g++) {
                int units = 1 + i * (g + 1) % 12;
                bench.setAmount(g, units);
                fresh.setAmount(g, units);
            }
            for (int span = 3; span <= 40; span += 3) {
                due("cost(" + span + ") of amounts " + i, bench.cost(span), fresh.cost(span));
            }
            due("measurable(-1, 9) of amounts " + i, bench.measurable(-1, 9),
                    fresh.measurable(-1, 9));
        }
    }

    void plansFollowEveryChange() {
        says(SPANS, "begins with the glasses as they are now");
        SandBench bench = new SandBench();
        costs(bench, NONE, NONE, 1, NONE, 1, 2, 4, 1);
        bench.fix(0, 2);
        due("the set that turns the 8 of a stack", bench.planned(8, 0, true), 1);
        bench.loosen(0);
        due("the set that turns the 8", bench.planned(8, 0, true), 4);
        bench.setKind(2, 2, 3);
        due("cost(8) of 3 and 5", bench.cost(8), 2);
        bench.setKind(2, 0, 3);
        due("cost(8) of 3, 5 and 8", bench.cost(8), 1);
        bench.setGlasses(1);
        costs(bench, NONE, NONE, 1, NONE, NONE, 2, NONE, NONE, 3);
        bench.undo();
        costs(bench, NONE, NONE, 1, NONE, 1, 2, 4, 1);
        bench.setAmount(0, 2);
        costs(bench, NONE, 1, NONE, 2, 1, 3);
        bench.setGlasses(3);
        bench.turn(1);
        bench.pass(4);
        costs(bench, 0, 1);
    }

    void planAtTheEndOfTime() {
        says(SPANS, "A plan for a span of n seconds begins with the glasses as they are now");
        SandBench bench = at(9999);
        costs(bench, NONE, NONE, 1, NONE, 1, 2, 4, 1);
        due("cost(40)", bench.cost(40), 5);
        due("measurable(-1, 9)", bench.measurable(-1, 9), 37);
    }

    void setOfNoStacks() {
        says(SPANS, "any set of stacks is turned (perhaps none)");
        SandBench bench = new SandBench();
        bench.turn(0);
        bench.turn(1);
        bench.turn(2);
        plan(bench, 8, new int[] {0, 0, 0}, new int[] {0, 3, 5});
        plan(bench, 5, new int[] {0, 0}, new int[] {0, 3});
        plan(bench, 3, new int[] {0}, new int[] {0});
        due("measurable(-1, 0)", bench.measurable(-1, 0), 3);
    }

    void severalRunOutAtOneMoment() {
        says(SPANS, "At its beginning, and then at each moment at which at least one glass has run"
                + " out, any set of stacks is turned (perhaps none)");
        SandBench bench = new SandBench();
        bench.setAmount(1, 3);
        bench.setAmount(2, 4);
        for (int g = 0; g < 3; g++) {
            bench.turn(g);
        }
        plan(bench, 4, new int[] {0, 0}, new int[] {0, 3});
        // At 3 the two that have run out are turned, at 4 nothing: one moment each.
        plan(bench, 6, new int[] {0, 1, 0}, new int[] {0, 3, 4});
    }

    void costIsTheNumberOfStacks() {
        says(SPANS, "Its cost is the number of stacks that are turned in it, each as often as it is"
                + " turned.");
        SandBench bench = new SandBench();
        bench.setAmount(1, 3);
        bench.setAmount(2, 3);
        bench.fix(0, 1);
        bench.fix(1, 2);
        due("cost(3) of a stack of three", bench.cost(3), 1);
        due("cost(39) of it", bench.cost(39), 13);
        // With 3 and 5 turned at 0, 3 is turned at 3 and back at 5.
        due("cost(7) of three stacks", new SandBench().cost(7), 4);
    }

    void greatestAmounts() {
        says("Glasses", "A glass has an amount of sand, 1 to 12 units");
        // The most moments, and the most moments and costs together.
        int[][] benches = {{12, 12, 12, 0}, {11, 12, 12, 1}, {12, 11, 12, 1}, {12, 11, 10, 0}};
        for (int[] amounts : benches) {
            SandBench bench = new SandBench();
            for (int g = 0; g < 3; g++) {
                bench.setAmount(g, amounts[g]);
            }
            if (amounts[3] == 1) {
                bench.fix(0, 1);
            }
            for (int seconds = 1; seconds <= 3; seconds++) {
                comparePlans(bench);
                bench.turn(seconds - 1);
                bench.pass(seconds);
            }
            comparePlans(bench);
        }
    }

    private void comparePlans(SandBench bench) {
        List<ReferencePlans.Sand> sands = new ArrayList<>();
        for (int g = 0; g < 3; g++) {
            sands.add(new ReferencePlans.Sand(bench.glass(g, 0), bench.glass(g, 1), false,
                    bench.glass(g, 5)));
        }
        for (int span = 1; span <= 40; span++) {
            ReferencePlans.Plan best = ReferencePlans.best(sands, span);
            due("cost(" + span + ") of " + sands, bench.cost(span),
                    best == null ? NONE : best.cost());
            int steps = best == null ? 0 : best.steps().size();
            for (int i = 0; i < steps; i++) {
                due("set " + i + " of " + span + " of " + sands, bench.planned(span, i, true),
                        best.steps().get(i).set());
            }
            noStep(bench, span, steps);
        }
    }

    void leastSequenceOfSets() {
        says(SPANS, "The best plan has the least cost; of several it is the one with the least"
                + " sequence of sets, from its beginning on, where a set counts as the sum of the"
                + " powers of 2 with the numbers of its stacks.");
        SandBench bench = new SandBench();
        for (int g = 0; g < 3; g++) {
            bench.setAmount(g, 4);
        }
        plan(bench, 4, new int[] {1}, new int[] {0});
        plan(bench, 8, new int[] {1, 1}, new int[] {0, 4});
        bench.setKind(0, 2, 3);
        plan(bench, 8, new int[] {2, 2}, new int[] {0, 4});
        bench.setKind(1, 2, 3);
        plan(bench, 8, new int[] {4, 4}, new int[] {0, 4});
    }

    void leastCostAheadOfTheLeastSequence() {
        says(SPANS, "The best plan has the least cost");
        SandBench bench = new SandBench();
        for (int g = 0; g < 3; g++) {
            bench.setAmount(g, g + 1);
        }
        // Glass 0, turned again and again, would be a lesser sequence, but of a greater cost.
        plan(bench, 3, new int[] {4}, new int[] {0});
        plan(bench, 4, new int[] {1, 4}, new int[] {0, 1});
        plan(bench, 5, new int[] {2, 4}, new int[] {0, 2});
        plan(bench, 6, new int[] {4, 4}, new int[] {0, 3});
        plan(bench, 7, new int[] {1, 4, 4}, new int[] {0, 1, 4});
    }

    void setsOfSeveralStacks() {
        says(SPANS, "any set of stacks is turned");
        SandBench bench = new SandBench();
        // 6 and 8 run; the 3 begin when the 6 end, and are turned back when the 8 end.
        bench.setAmount(1, 6);
        plan(bench, 10, new int[] {6, 1, 1}, new int[] {0, 6, 8});
        due("cost(10)", bench.cost(10), 4);
        bench.setAmount(1, 1);
        bench.setAmount(0, 1);
        // A single unit tells when 3 of the 8 have gone; then they are turned back.
        plan(bench, 6, new int[] {5, 1, 1, 4}, new int[] {0, 1, 2, 3});
        due("cost(6)", bench.cost(6), 5);
        bench.setAmount(0, 4);
        bench.setAmount(1, 5);
        bench.setAmount(2, 5);
        plan(bench, 7, new int[] {7, 2, 2}, new int[] {0, 4, 5});
        due("cost(7)", bench.cost(7), 5);
    }

    void laterTurnIsTheLeastSequence() {
        says(SPANS, "the one with the least sequence of sets, from its beginning on");
        SandBench bench = new SandBench();
        bench.turn(0);
        // Set 2 at 3, and no earlier: a sequence that begins with 0 is the least.
        plan(bench, 8, new int[] {0, 2}, new int[] {0, 3});
        plan(bench, 11, new int[] {0, 4}, new int[] {0, 3});
    }

    void numbersOfStacksInASet() {
        says(SPANS, "a set counts as the sum of the powers of 2 with the numbers of its stacks");
        SandBench bench = new SandBench();
        bench.fix(1, 2);
        plan(bench, 8, new int[] {2, 0}, new int[] {0, 5});
        bench.loosen(1);
        bench.fix(0, 2);
        plan(bench, 8, new int[] {1, 0}, new int[] {0, 3});
        plan(bench, 5, new int[] {2}, new int[] {0});
        bench.fix(0, 1);
        plan(bench, 8, new int[] {1, 0, 0}, new int[] {0, 3, 5});
        plan(new SandBench(), 7, new int[] {3, 1, 1}, new int[] {0, 3, 5});
    }

    void stepOfNoSpan() {
        says(PLANNED, "1 to 40");
        says(PLANNED, "Returns the set, or the seconds; BAD; NONE if there is no plan, or it has not"
                + " so many steps.");
        SandBench bench = single(1);
        for (int span : NO_SPANS) {
            due("planned(" + span + ", 0, true)", bench.planned(span, 0, true), BAD);
            due("planned(" + span + ", 0, false)", bench.planned(span, 0, false), BAD);
            due("planned(" + span + ", 99, false)", bench.planned(span, 99, false), BAD);
        }
    }

    void stepBelowZero() {
        says(PLANNED, "the index of the step, from 0");
        SandBench bench = single(2);
        for (int i : new int[] {-1, -2, LEAST_INT}) {
            for (int span = 1; span <= 2; span++) {
                due("planned(" + span + ", " + i + ", true)", bench.planned(span, i, true), BAD);
                due("planned(" + span + ", " + i + ", false)", bench.planned(span, i, false), BAD);
            }
        }
        plan(bench, 2, new int[] {1}, new int[] {0});
    }

    void stepOfNoPlan() {
        says(PLANNED, "NONE if there is no plan, or it has not so many steps");
        SandBench bench = new SandBench();
        for (int span : new int[] {1, 2, 4}) {
            noStep(bench, span, 0);
            noStep(bench, span, 1);
            noStep(bench, span, GREATEST_INT);
        }
    }

    void stepsBehindTheLast() {
        says(PLANNED, "or it has not so many steps");
        SandBench bench = single(1);
        for (int span = 1; span <= 40; span++) {
            due("the last set", bench.planned(span, span - 1, true), 1);
            due("the last seconds", bench.planned(span, span - 1, false), span - 1);
            noStep(bench, span, span);
            noStep(bench, span, GREATEST_INT);
        }
    }

    void mostSteps() {
        says(PLANNED, "the plan has a step for its beginning, and one for each moment ahead of its"
                + " goal at which a glass has run out");
        SandBench bench = single(1);
        bench.turn(0);
        due("the first set", bench.planned(40, 0, true), 0);
        due("the first seconds", bench.planned(40, 0, false), 0);
        for (int i = 1; i < 40; i++) {
            due("set " + i, bench.planned(40, i, true), 1);
            due("seconds " + i, bench.planned(40, i, false), i);
        }
        noStep(bench, 40, 40);
    }

    void spansBelowTheNumber() {
        says(MEASURABLE, "BAD if i is less than -1, or most is out of range");
        SandBench bench = new SandBench();
        for (int i : new int[] {-2, -3, -40, LEAST_INT}) {
            for (int most = 0; most <= 9; most++) {
                due("measurable(" + i + ", " + most + ")", bench.measurable(i, most), BAD);
            }
        }
        due("measurable(-1, 1)", bench.measurable(-1, 1), 3);
    }

    void mostOutOfRange() {
        says(MEASURABLE, "the greatest cost, 0 to 9");
        SandBench bench = single(1);
        for (int most : new int[] {-1, 10, 11, LEAST_INT, GREATEST_INT}) {
            due("measurable(-1, " + most + ")", bench.measurable(-1, most), BAD);
            due("measurable(0, " + most + ")", bench.measurable(0, most), BAD);
            due("measurable(99, " + most + ")", bench.measurable(99, most), BAD);
        }
        for (int most = 0; most <= 9; most++) {
            due("measurable(-1, " + most + ")", bench.measurable(-1, most), most);
        }
    }

    void indexOfASpan() {
        says(MEASURABLE, "its index, from 0, among those from 1 to 40 for which there is a plan with"
                + " at most some cost, or -1 for their number");
        SandBench bench = new SandBench();
        // All but 1, 2 and 4.
        due("measurable(-1, 9)", bench.measurable(-1, 9), 37);
        due("measurable(0, 9)", bench.measurable(0, 9), 3);
        for (int i = 1; i <= 36; i++) {
            due("measurable(" + i + ", 9)", bench.measurable(i, 9), i + 4);
        }
    }

    void notSoManySpans() {
        says(MEASURABLE, "Returns the span, or the number; BAD if i is less than -1, or most is out"
                + " of range; NONE if there are not so many.");
        SandBench bench = new SandBench();
        due("measurable(36, 9)", bench.measurable(36, 9), 40);
        due("measurable(37, 9)", bench.measurable(37, 9), NONE);
        due("measurable(40, 9)", bench.measurable(40, 9), NONE);
        due("measurable(a far one, 9)", bench.measurable(GREATEST_INT, 9), NONE);
        due("measurable(0, 0)", bench.measurable(0, 0), NONE);
        due("measurable(-1, 0)", bench.measurable(-1, 0), 0);
    }

    void costAtTheMost() {
        says(MEASURABLE, "there is a plan with at most some cost");
        SandBench bench = single(4);
        due("cost(36)", bench.cost(36), 9);
        due("cost(40)", bench.cost(40), 10);
        due("measurable(-1, 9)", bench.measurable(-1, 9), 9);
        due("measurable(8, 9)", bench.measurable(8, 9), 36);
        due("measurable(9, 9)", bench.measurable(9, 9), NONE);
        due("measurable(-1, 8)", bench.measurable(-1, 8), 8);
        due("measurable(8, 8)", bench.measurable(8, 8), NONE);
        bench.turn(0);
        due("measurable(9, 9) of what runs", bench.measurable(9, 9), 40);
    }

    void allSpansCanBeMeasured() {
        says(MEASURABLE, "those from 1 to 40");
        SandBench bench = new SandBench();
        bench.setAmount(0, 1);
        bench.setAmount(1, 2);
        bench.setAmount(2, 12);
        due("measurable(-1, 9)", bench.measurable(-1, 9), 40);
        due("measurable(0, 9)", bench.measurable(0, 9), 1);
        due("measurable(39, 9)", bench.measurable(39, 9), 40);
        due("measurable(40, 9)", bench.measurable(40, 9), NONE);
    }

    void plansChangeNothing() {
        says("Changes", "Changes are the calls of the methods in the section \"changes\"");
        SandBench bench = sticky(12, 2);
        bench.pass(2);
        long was = bench.digest();
        for (int span = 0; span <= 41; span++) {
            bench.cost(span);
            bench.planned(span, 1, true);
            bench.measurable(span, 9);
        }
        due("the digest", bench.digest(), was);
    }
}
