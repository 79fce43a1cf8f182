import java.util.ArrayDeque;
import java.util.ArrayList;
import java.util.Deque;
import java.util.List;
import java.util.TreeSet;

/** The document's words put down as plainly as can be, to compare the class with. */
final class Reference {
    static final int BAD = -2, STATE = -3, FULL = -4, NONE = -1;

    private static final class Glass {
        int amount = 5;
        int above;
        int kind;
        int grip = 3;
        boolean stuck;
        int seconds;

        Glass copy() {
            Glass copy = new Glass();
            copy.amount = amount;
            copy.above = above;
            copy.kind = kind;
            copy.grip = grip;
            copy.stuck = stuck;
            copy.seconds = seconds;
            return copy;
        }

        boolean runs() {
            return above > 0 && kind != 2 && !stuck;
        }

        void free() {
            stuck = false;
            seconds = 0;
        }
    }

    private static final class World {
        List<Glass> glasses = new ArrayList<>();
        List<TreeSet<Integer>> stacks = new ArrayList<>();
        int time;
        List<int[]> events = new ArrayList<>();
        int eventsEver;
        int mark = NONE;
        int turns;
        int taps;

        World copy() {
            World copy = new World();
            glasses.forEach(glass -> copy.glasses.add(glass.copy()));
            stacks.forEach(stack -> copy.stacks.add(new TreeSet<>(stack)));
            copy.time = time;
            copy.events.addAll(events);
            copy.eventsEver = eventsEver;
            copy.mark = mark;
            copy.turns = turns;
            copy.taps = taps;
            return copy;
        }

        TreeSet<Integer> stackOf(int g) {
            return stacks.stream().filter(stack -> stack.contains(g)).findFirst().orElseThrow();
        }

        boolean anyRuns() {
            return glasses.stream().anyMatch(Glass::runs);
        }

        void turnStackOf(int glass) {
            for (int g : stackOf(glass)) {
                Glass turned = glasses.get(g);
                turned.above = turned.amount - turned.above;
                turned.free();
            }
            turns++;
        }

        int second() {
            List<Integer> running = new ArrayList<>();
            for (int g = 0; g < glasses.size(); g++) {
                if (glasses.get(g).runs()) {
                    running.add(g);
                }
            }
            time++;
            int written = 0;
            for (int g : running) {
                Glass glass = glasses.get(g);
                glass.above--;
                if (glass.kind == 1) {
                    glass.seconds++;
                }
                if (glass.above == 0) {
                    events.add(0, new int[] {time, g, 0});
                    written++;
                } else if (glass.kind == 1 && glass.seconds == glass.grip) {
                    glass.stuck = true;
                    events.add(0, new int[] {time, g, 1});
                    written++;
                }
            }
            while (events.size() > 12) {
                events.remove(12);
            }
            eventsEver += written;
            return written;
        }

        int secondsToEvent() {
            World ahead = copy();
            int seconds = 0;
            do {
                seconds++;
            } while (ahead.second() == 0);
            return seconds;
        }
    }

    private World world = new World();
    private final Deque<World> history = new ArrayDeque<>();
    private final StringBuilder text = new StringBuilder();

    Reference() {
        for (int g = 0; g < 3; g++) {
            world.glasses.add(new Glass());
            world.stacks.add(new TreeSet<>(List.of(g)));
        }
        world.glasses.get(0).amount = 3;
        world.glasses.get(1).amount = 5;
        world.glasses.get(2).amount = 8;
    }

    private boolean isGlass(int g) {
        return g >= 0 && g < world.glasses.size();
    }

    private void keep() {
        history.push(world.copy());
        while (history.size() > 8) {
            history.removeLast();
        }
    }

    int type(int letter) {
        if (letter < 0 || letter > 127) {
            return BAD;
        }
        if (text.length() == 60) {
            return FULL;
        }
        text.append((char) letter);
        return text.length();
    }

    int clearText() {
        int length = text.length();
        text.setLength(0);
        return length;
    }

    int fault() {
        return new Reader(text.toString(), world.glasses.size()).fault();
    }

    int setGlasses(int count) {
        if (count < 1 || count > 3) {
            return BAD;
        }
        keep();
        int before = world.glasses.size();
        List<Glass> renewed = new ArrayList<>();
        world.stacks.clear();
        for (int g = 0; g < count; g++) {
            Glass glass = new Glass();
            if (g < before) {
                glass.amount = world.glasses.get(g).amount;
            }
            renewed.add(glass);
            world.stacks.add(new TreeSet<>(List.of(g)));
        }
        world.glasses = renewed;
        return before;
    }

    int setAmount(int g, int units) {
        if (!isGlass(g) || units < 1 || units > 12) {
            return BAD;
        }
        keep();
        Glass glass = world.glasses.get(g);
        int before = glass.amount;
        glass.amount = units;
        glass.above = 0;
        glass.free();
        return before;
    }

    int setKind(int g, int kind, int grip) {
        if (!isGlass(g) || kind < 0 || kind > 2 || grip < 1 || grip > 9) {
            return BAD;
        }
        keep();
        Glass glass = world.glasses.get(g);
        int before = glass.kind;
        glass.kind = kind;
        glass.grip = grip;
        glass.free();
        return before;
    }

    int fix(int g, int other) {
        if (!isGlass(g) || !isGlass(other)) {
            return BAD;
        }
        if (world.stackOf(g).contains(other)) {
            return STATE;
        }
        keep();
        TreeSet<Integer> joined = world.stackOf(g);
        TreeSet<Integer> gone = world.stackOf(other);
        world.stacks.remove(gone);
        joined.addAll(gone);
        return joined.first();
    }

    int loosen(int g) {
        if (!isGlass(g)) {
            return BAD;
        }
        if (world.stackOf(g).size() == 1) {
            return STATE;
        }
        keep();
        TreeSet<Integer> loosened = world.stackOf(g);
        world.stacks.remove(loosened);
        loosened.forEach(single -> world.stacks.add(new TreeSet<>(List.of(single))));
        return world.stacks.size();
    }

    int turn(int g) {
        if (!isGlass(g)) {
            return BAD;
        }
        keep();
        world.turnStackOf(g);
        return world.glasses.get(g).above;
    }

    int tap(int g) {
        if (!isGlass(g)) {
            return BAD;
        }
        keep();
        int stuck = world.glasses.get(g).stuck ? 1 : 0;
        world.glasses.get(g).free();
        world.taps++;
        return stuck;
    }

    int pass(int seconds) {
        if (seconds < 1 || seconds > 999) {
            return BAD;
        }
        if (world.time + seconds > 9999) {
            return FULL;
        }
        keep();
        int events = 0;
        for (int i = 0; i < seconds; i++) {
            events += world.second();
        }
        return events;
    }

    int await() {
        if (!world.anyRuns()) {
            return STATE;
        }
        int seconds = world.secondsToEvent();
        if (world.time + seconds > 9999) {
            return FULL;
        }
        keep();
        for (int i = 0; i < seconds; i++) {
            world.second();
        }
        return seconds;
    }

    int mark() {
        keep();
        int before = world.mark;
        world.mark = world.time;
        return before;
    }

    int run() {
        Reader reader = new Reader(text.toString(), world.glasses.size());
        if (reader.fault() != NONE) {
            return STATE;
        }
        keep();
        int done = 0;
        for (String step : reader.steps()) {
            if (done == 100) {
                return done;
            }
            int number = step.length() > 1 ? Integer.parseInt(step.substring(1)) : 0;
            switch (step.charAt(0)) {
                case 't' -> world.turnStackOf(number);
                case 'k' -> {
                    world.glasses.get(number).free();
                    world.taps++;
                }
                case 'w', 'e' -> {
                    int seconds = number;
                    if (step.equals("e")) {
                        seconds = world.anyRuns() ? world.secondsToEvent() : 0;
                    }
                    if (world.time + seconds > 9999) {
                        return done;
                    }
                    for (int i = 0; i < seconds; i++) {
                        world.second();
                    }
                }
                default -> throw new IllegalStateException(step);
            }
            done++;
        }
        return done;
    }

    int undo() {
        if (history.isEmpty()) {
            return STATE;
        }
        world = history.pop();
        return history.size();
    }

    int glass(int g, int what) {
        if (!isGlass(g)) {
            return BAD;
        }
        Glass glass = world.glasses.get(g);
        return switch (what) {
            case 0 -> glass.amount;
            case 1 -> glass.above;
            case 2 -> glass.kind;
            case 3 -> glass.grip;
            case 4 -> glass.stuck ? 1 : 0;
            case 5 -> world.stackOf(g).first();
            case 6 -> glass.kind == 1 ? glass.seconds : 0;
            case 7 -> glass.runs() ? 1 : 0;
            default -> BAD;
        };
    }

    int event(int i, int what) {
        if (i < 0 || what < 0 || what > 2) {
            return BAD;
        }
        return i < world.events.size() ? world.events.get(i)[what] : NONE;
    }

    int cost(int span) {
        if (span < 1 || span > 40) {
            return BAD;
        }
        ReferencePlans.Plan best = best(span);
        return best == null ? NONE : best.cost();
    }

    int planned(int span, int i, boolean set) {
        if (span < 1 || span > 40 || i < 0) {
            return BAD;
        }
        ReferencePlans.Plan best = best(span);
        if (best == null || i >= best.steps().size()) {
            return NONE;
        }
        return set ? best.steps().get(i).set() : span - best.steps().get(i).left();
    }

    int measurable(int i, int most) {
        if (i < -1 || most < 0 || most > 9) {
            return BAD;
        }
        List<Integer> spans = new ArrayList<>();
        for (int span = 1; span <= 40; span++) {
            ReferencePlans.Plan best = best(span);
            if (best != null && best.cost() <= most) {
                spans.add(span);
            }
        }
        if (i == -1) {
            return spans.size();
        }
        return i < spans.size() ? spans.get(i) : NONE;
    }

    private ReferencePlans.Plan best(int span) {
        List<ReferencePlans.Sand> sands = new ArrayList<>();
        for (int g = 0; g < world.glasses.size(); g++) {
            Glass glass = world.glasses.get(g);
            sands.add(new ReferencePlans.Sand(glass.amount, glass.above, glass.kind == 2,
                    world.stackOf(g).first()));
        }
        return ReferencePlans.best(sands, span);
    }

    int count(int what) {
        return switch (what) {
            case 0 -> world.glasses.size();
            case 1 -> world.stacks.size();
            case 2 -> world.time;
            case 3 -> world.mark == NONE ? NONE : world.time - world.mark;
            case 4 -> world.eventsEver;
            case 5 -> world.events.size();
            case 6 -> world.turns;
            case 7 -> world.taps;
            case 8 -> history.size();
            case 9 -> text.length();
            default -> BAD;
        };
    }

    long digest() {
        List<Integer> numbers = new ArrayList<>();
        for (int what = 0; what <= 9; what++) {
            numbers.add(count(what));
        }
        for (int g = 0; g < world.glasses.size(); g++) {
            for (int what = 0; what <= 7; what++) {
                numbers.add(glass(g, what));
            }
        }
        for (int[] event : world.events) {
            for (int part : event) {
                numbers.add(part);
            }
        }
        for (int span = 1; span <= 20; span++) {
            numbers.add(cost(span));
        }
        numbers.add(measurable(-1, 3));
        for (int i = 0; i < text.length(); i++) {
            numbers.add((int) text.charAt(i));
        }
        long h = 139;
        for (int number : numbers) {
            h = 31 * h + number;
        }
        return h;
    }

    /** A reader that stops with a Fault, and that writes out all that is repeated. */
    private static final class Reader {
        private static final class Fault extends Exception {
            private static final long serialVersionUID = 1;
            final int at;

            Fault(int at) {
                this.at = at;
            }
        }

        private final String text;
        private final int glasses;
        private int at;
        private int fault = NONE;
        private List<String> steps = new ArrayList<>();

        Reader(String text, int glasses) {
            this.text = text;
            this.glasses = glasses;
            try {
                steps = steps(0);
                if (at < text.length()) {
                    throw new Fault(at);
                }
            } catch (Fault found) {
                fault = found.at;
            }
        }

        int fault() {
            return fault;
        }

        List<String> steps() {
            return steps;
        }

        private List<String> steps(int depth) throws Fault {
            List<String> read = new ArrayList<>();
            blanks();
            while (at < text.length() && text.charAt(at) != ')') {
                read.addAll(step(depth));
                sign(';');
            }
            return read;
        }

        private List<String> step(int depth) throws Fault {
            char letter = text.charAt(at);
            if (Character.isDigit(letter)) {
                return repeated(depth);
            }
            if ("tkwe".indexOf(letter) < 0) {
                throw new Fault(at);
            }
            at++;
            blanks();
            if (letter == 'e') {
                return List.of("e");
            }
            return List.of("" + letter + (letter == 'w' ? number(99) : glass()));
        }

        private List<String> repeated(int depth) throws Fault {
            int times = number(20);
            if (depth == 2) {
                throw new Fault(at);
            }
            sign('(');
            List<String> body = steps(depth + 1);
            sign(')');
            List<String> all = new ArrayList<>();
            for (int i = 0; i < times; i++) {
                all.addAll(body);
            }
            return all;
        }

        private int glass() throws Fault {
            if (at >= text.length() || text.charAt(at) < '0'
                    || text.charAt(at) >= '0' + glasses) {
                throw new Fault(at);
            }
            at++;
            int glass = text.charAt(at - 1) - '0';
            blanks();
            return glass;
        }

        private int number(int most) throws Fault {
            int first = at;
            while (at < text.length() && at < first + 2 && Character.isDigit(text.charAt(at))) {
                at++;
            }
            if (at == first) {
                throw new Fault(at);
            }
            int number = Integer.parseInt(text.substring(first, at));
            if (number < 1 || number > most) {
                throw new Fault(first);
            }
            blanks();
            return number;
        }

        private void sign(char sign) throws Fault {
            if (at >= text.length() || text.charAt(at) != sign) {
                throw new Fault(at);
            }
            at++;
            blanks();
        }

        private void blanks() {
            while (at < text.length() && text.charAt(at) == ' ') {
                at++;
            }
        }
    }
}
