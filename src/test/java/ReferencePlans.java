import java.util.ArrayList;
import java.util.HashMap;
import java.util.List;
import java.util.Map;
import java.util.TreeSet;

/** Best plans by the document's own words: plans are lists of steps that are compared whole. */
final class ReferencePlans {
    record Sand(int amount, int above, boolean lies, int stack) {
        boolean runs() {
            return above > 0 && !lies;
        }

        Sand withAbove(int units) {
            return new Sand(amount, units, lies, stack);
        }
    }

    /** A set that is turned with so many seconds left to the goal. */
    record Step(int set, int left) {
    }

    record Plan(int cost, List<Step> steps) {
        boolean isBetterThan(Plan other) {
            if (other == null || cost != other.cost) {
                return other == null || cost < other.cost;
            }
            for (int i = 0; i < steps.size() && i < other.steps.size(); i++) {
                if (steps.get(i).set() != other.steps.get(i).set()) {
                    return steps.get(i).set() < other.steps.get(i).set();
                }
            }
            return false;
        }

        Plan behind(Step first) {
            List<Step> all = new ArrayList<>(List.of(first));
            all.addAll(steps);
            return new Plan(cost + Integer.bitCount(first.set()), all);
        }
    }

    private record Question(List<Sand> sands, int left) {
    }

    /** A plan that is null in it: there is none. */
    private static final Map<Question, Plan> KNOWN = new HashMap<>();

    private ReferencePlans() {
    }

    /** The best plan, each question answered once; null if there is none. */
    static Plan best(List<Sand> sands, int span) {
        if (KNOWN.size() > 1_000_000) {
            KNOWN.clear();
        }
        Question question = new Question(sands, span);
        if (KNOWN.containsKey(question)) {
            return KNOWN.get(question);
        }
        Plan best = null;
        for (int set = 0; set < 8; set++) {
            Plan plan = areStacks(sands, set) ? bestWith(sands, set, span) : null;
            if (plan != null && plan.isBetterThan(best)) {
                best = plan;
            }
        }
        KNOWN.put(question, best);
        return best;
    }

    private static Plan bestWith(List<Sand> sands, int set, int span) {
        List<Sand> turned = turned(sands, set);
        int seconds = secondsToRunOut(turned);
        if (seconds == 0 || seconds > span) {
            return null;
        }
        Plan rest = seconds == span
                ? new Plan(0, List.of()) : best(after(turned, seconds), span - seconds);
        return rest == null ? null : rest.behind(new Step(set, span));
    }

    /** All plans that come to their goal, one after the other: only for small spans. */
    static List<Plan> all(List<Sand> sands, int span) {
        List<Plan> plans = new ArrayList<>();
        for (int set = 0; set < 8; set++) {
            if (!areStacks(sands, set)) {
                continue;
            }
            List<Sand> turned = turned(sands, set);
            int seconds = secondsToRunOut(turned);
            if (seconds == 0 || seconds > span) {
                continue;
            }
            List<Plan> rests = seconds == span ? List.of(new Plan(0, List.of()))
                    : all(after(turned, seconds), span - seconds);
            for (Plan rest : rests) {
                plans.add(rest.behind(new Step(set, span)));
            }
        }
        return plans;
    }

    private static boolean areStacks(List<Sand> sands, int set) {
        TreeSet<Integer> stacks = new TreeSet<>();
        sands.forEach(sand -> stacks.add(sand.stack()));
        for (int number = 0; number < 3; number++) {
            if ((set >> number & 1) == 1 && !stacks.contains(number)) {
                return false;
            }
        }
        return true;
    }

    private static List<Sand> turned(List<Sand> sands, int set) {
        List<Sand> turned = new ArrayList<>();
        for (Sand sand : sands) {
            boolean isTurned = (set >> sand.stack() & 1) == 1;
            turned.add(isTurned ? sand.withAbove(sand.amount() - sand.above()) : sand);
        }
        return turned;
    }

    private static int secondsToRunOut(List<Sand> sands) {
        return sands.stream().filter(Sand::runs).mapToInt(Sand::above).min().orElse(0);
    }

    private static List<Sand> after(List<Sand> sands, int seconds) {
        List<Sand> after = new ArrayList<>();
        for (Sand sand : sands) {
            after.add(sand.runs() ? sand.withAbove(Math.max(0, sand.above() - seconds)) : sand);
        }
        return after;
    }
}
