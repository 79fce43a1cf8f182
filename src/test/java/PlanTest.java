import java.util.ArrayList;
import java.util.Arrays;
import java.util.List;
import java.util.Random;

/**
 * Plans against two other ways to find them: all plans for small spans, one after the other, and
 * the least costs for all amounts and all ways to fix the glasses.
 */
public final class PlanTest {
    private static final int NONE = -1;
    private static final Checks CHECKS = new Checks("PlanTest");
    private static final int[][] STACKS = {{0, 1, 2}, {0, 0, 2}, {0, 1, 0}, {0, 1, 1}, {0, 0, 0}};

    private PlanTest() {
    }

    public static void main(String[] args) {
        Random random = new Random(7);
        for (int i = 0; i < 400; i++) {
            compareWithAllPlans(random);
        }
        for (int a = 0; a <= 12; a++) {
            for (int b = 0; b <= 12; b++) {
                for (int c = 0; c <= 12; c++) {
                    compareCosts(new int[] {a, b, c}, STACKS[0]);
                    compareCosts(new int[] {a, b, c}, STACKS[1 + (a + b + c) % 4]);
                }
            }
        }
        CHECKS.end();
    }

    private static void compareWithAllPlans(Random random) {
        SandBench bench = new SandBench();
        bench.setGlasses(1 + random.nextInt(3));
        int glasses = bench.count(0);
        for (int g = 0; g < glasses; g++) {
            bench.setAmount(g, 1 + random.nextInt(random.nextBoolean() ? 5 : 12));
            bench.setKind(g, random.nextInt(3), 1 + random.nextInt(4));
            if (random.nextInt(3) == 0) {
                bench.fix(g, random.nextInt(glasses));
            }
        }
        for (int i = random.nextInt(6); i > 0; i--) {
            bench.turn(random.nextInt(glasses));
            bench.pass(1 + random.nextInt(3));
        }
        List<ReferencePlans.Sand> sands = new ArrayList<>();
        for (int g = 0; g < glasses; g++) {
            sands.add(new ReferencePlans.Sand(bench.glass(g, 0), bench.glass(g, 1),
                    bench.glass(g, 2) == 2, bench.glass(g, 5)));
        }
        int most = bench.count(1) == 3 ? 5 : 7;
        for (int span = 1; span <= most; span++) {
            ReferencePlans.Plan best = null;
            for (ReferencePlans.Plan plan : ReferencePlans.all(sands, span)) {
                if (plan.isBetterThan(best)) {
                    best = plan;
                }
            }
            comparePlan(bench, sands, span, best);
        }
    }

    private static void comparePlan(SandBench bench, List<ReferencePlans.Sand> sands, int span,
            ReferencePlans.Plan best) {
        String what = " for " + span + " of " + sands;
        CHECKS.due("cost" + what, bench.cost(span), best == null ? NONE : best.cost());
        int steps = best == null ? 0 : best.steps().size();
        for (int i = 0; i < steps; i++) {
            ReferencePlans.Step step = best.steps().get(i);
            CHECKS.due("set " + i + what, bench.planned(span, i, true), step.set());
            CHECKS.due("seconds " + i + what, bench.planned(span, i, false), span - step.left());
        }
        CHECKS.due("step " + steps + what, bench.planned(span, steps, true), NONE);
        CHECKS.due("a far step" + what, bench.planned(span, Integer.MAX_VALUE, false), NONE);
    }

    /** An amount of 0 stands for a glass that lies. */
    private static void compareCosts(int[] amounts, int[] stacks) {
        SandBench bench = new SandBench();
        for (int g = 0; g < 3; g++) {
            if (amounts[g] == 0) {
                bench.setKind(g, 2, 1);
            } else {
                bench.setAmount(g, amounts[g]);
            }
            if (stacks[g] != g) {
                bench.fix(g, stacks[g]);
            }
        }
        int[] above = {0, 0, 0};
        for (int turn = 0; turn < 2; turn++) {
            int[] costs = leastCosts(amounts, stacks, above);
            int within = 0;
            for (int span = 1; span <= 40; span++) {
                String what = "cost(" + span + ") of " + Arrays.toString(amounts) + " in "
                        + Arrays.toString(stacks) + " above " + Arrays.toString(above);
                CHECKS.due(what, bench.cost(span), costs[span]);
                within += costs[span] != NONE && costs[span] <= 9 ? 1 : 0;
            }
            CHECKS.due("measurable(-1, 9) of " + Arrays.toString(amounts),
                    bench.measurable(-1, 9), within);
            bench.turn(turn);
            bench.turn(2);
            bench.pass(1);
            for (int g = 0; g < 3; g++) {
                above[g] = amounts[g] == 0 ? 0 : bench.glass(g, 1);
            }
        }
    }

    /** Goes ahead in time: the least cost of each sand that can be there at each second. */
    private static int[] leastCosts(int[] amounts, int[] stacks, int[] above) {
        int[][] least = new int[41][13 * 13 * 13];
        int[] costs = new int[41];
        Arrays.fill(costs, NONE);
        for (int[] second : least) {
            Arrays.fill(second, NONE);
        }
        least[0][(above[0] * 13 + above[1]) * 13 + above[2]] = 0;
        for (int time = 0; time < 40; time++) {
            for (int sand = 0; sand < least[time].length; sand++) {
                for (int set = 0; least[time][sand] != NONE && set < 8; set++) {
                    int cost = least[time][sand] + Integer.bitCount(set);
                    int[] now = {sand / 169, sand / 13 % 13, sand % 13};
                    int seconds = turnAndRun(now, amounts, stacks, set);
                    if (seconds > 0 && time + seconds <= 40) {
                        int then = time + seconds;
                        int reached = (now[0] * 13 + now[1]) * 13 + now[2];
                        least[then][reached] = lesser(least[then][reached], cost);
                        costs[then] = lesser(costs[then], cost);
                    }
                }
            }
        }
        return costs;
    }

    private static int lesser(int known, int cost) {
        return known == NONE || cost < known ? cost : known;
    }

    private static int turnAndRun(int[] now, int[] amounts, int[] stacks, int set) {
        int seconds = 0;
        for (int g = 0; g < 3; g++) {
            if ((set >> stacks[g] & 1) == 1) {
                now[g] = amounts[g] - now[g];
            }
            if (now[g] > 0 && (seconds == 0 || now[g] < seconds)) {
                seconds = now[g];
            }
        }
        for (int g = 0; g < 3; g++) {
            now[g] = Math.max(0, now[g] - seconds);
        }
        return seconds;
    }
}
