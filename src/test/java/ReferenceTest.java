import java.util.Random;

/** Long runs of calls, drawn from fixed seeds, each answered by the class and by the reference. */
public final class ReferenceTest {
    private static final int CALLS = 512;
    private static final Checks CHECKS = new Checks("ReferenceTest");

    private final int run;
    private final Random random;
    private final SandBench bench = new SandBench();
    private final Reference reference = new Reference();
    private int calls;

    private ReferenceTest(int run) {
        this.run = run;
        this.random = new Random(run);
    }

    public static void main(String[] args) {
        int runs = args.length > 0 ? Integer.parseInt(args[0]) : 400;
        for (int run = 0; run < runs; run++) {
            new ReferenceTest(run).compare();
        }
        CHECKS.end();
    }

    private void compare() {
        // Some runs are near the end of time, and some ask for plans often.
        if (run % 3 == 0) {
            for (int i = 0; i < 9; i++) {
                due("pass(999)", bench.pass(999), reference.pass(999));
            }
            int rest = 900 + random.nextInt(100);
            due("pass(" + rest + ")", bench.pass(rest), reference.pass(rest));
        }
        while (calls < CALLS - 70) {
            int kind = random.nextInt(run % 5 == 0 ? 24 : 20);
            if (kind < 12) {
                change();
            } else if (kind < 14) {
                text();
            } else if (kind < 19) {
                tell();
            } else {
                plan();
            }
        }
        due("digest()", bench.digest(), reference.digest());
    }

    private void due(String call, long got, long want) {
        calls++;
        CHECKS.due("run " + run + ", call " + calls + ": " + call, got, want);
    }

    /** Mostly in the range, sometimes a little outside. */
    private int near(int least, int most) {
        if (random.nextInt(12) == 0) {
            return random.nextBoolean() ? least - 1 : most + 1;
        }
        return least + random.nextInt(most - least + 1);
    }

    private void change() {
        int a = near(0, 2);
        int b = near(0, 2);
        switch (random.nextInt(15)) {
            case 0 -> {
                if (random.nextInt(4) == 0) {
                    int glasses = near(1, 3);
                    due("setGlasses(" + glasses + ")", bench.setGlasses(glasses),
                            reference.setGlasses(glasses));
                }
            }
            case 1 -> {
                int units = near(1, 12);
                due("setAmount(" + a + ", " + units + ")", bench.setAmount(a, units),
                        reference.setAmount(a, units));
            }
            case 2, 3 -> {
                int kind = near(0, 2);
                int grip = near(1, 9);
                due("setKind(" + a + ", " + kind + ", " + grip + ")",
                        bench.setKind(a, kind, grip), reference.setKind(a, kind, grip));
            }
            case 4 -> due("fix(" + a + ", " + b + ")", bench.fix(a, b), reference.fix(a, b));
            case 5 -> due("loosen(" + a + ")", bench.loosen(a), reference.loosen(a));
            case 6, 7, 8 -> due("turn(" + a + ")", bench.turn(a), reference.turn(a));
            case 9 -> due("tap(" + a + ")", bench.tap(a), reference.tap(a));
            case 10 -> {
                int seconds = random.nextInt(20) == 0 ? near(1, 999) : near(1, 6);
                due("pass(" + seconds + ")", bench.pass(seconds), reference.pass(seconds));
            }
            case 11 -> due("await()", bench.await(), reference.await());
            case 12 -> due("mark()", bench.mark(), reference.mark());
            case 13 -> due("run()", bench.run(), reference.run());
            default -> {
                for (int i = random.nextInt(4); i >= 0; i--) {
                    due("undo()", bench.undo(), reference.undo());
                }
            }
        }
    }

    private void text() {
        String text = script(0);
        if (random.nextInt(3) == 0) {
            text = spoiled(text);
        }
        if (text.length() > 60) {
            text = text.substring(0, random.nextInt(6) == 0 ? 61 : random.nextInt(61));
        }
        due("clearText()", bench.clearText(), reference.clearText());
        for (int i = 0; i < text.length(); i++) {
            due("type(" + (int) text.charAt(i) + ")", bench.type(text.charAt(i)),
                    reference.type(text.charAt(i)));
        }
        due("fault() of '" + text + "'", bench.fault(), reference.fault());
        due("run() of '" + text + "'", bench.run(), reference.run());
    }

    private String script(int depth) {
        StringBuilder script = new StringBuilder();
        for (int i = random.nextInt(5); i > 0; i--) {
            script.append(blank());
            switch (random.nextInt(depth < 2 || random.nextInt(8) == 0 ? 7 : 5)) {
                case 0 -> script.append('t').append(blank()).append(random.nextInt(3));
                case 1 -> script.append('k').append(blank()).append(random.nextInt(3));
                case 2 -> script.append('w').append(blank()).append(number(99));
                case 3, 4 -> script.append('e');
                default -> {
                    if (depth < 3) {
                        script.append(number(20)).append(blank()).append('(')
                                .append(script(depth + 1)).append(')');
                    } else {
                        script.append('e');
                    }
                }
            }
            script.append(blank()).append(';');
        }
        return script.append(blank()).toString();
    }

    private String number(int most) {
        int number = random.nextInt(12) == 0 ? random.nextInt(110) : 1 + random.nextInt(
                random.nextBoolean() ? 3 : most);
        return (number < 10 && random.nextInt(4) == 0 ? "0" : "") + number;
    }

    private String blank() {
        return random.nextInt(10) == 0 ? " " : "";
    }

    private String spoiled(String text) {
        StringBuilder spoiled = new StringBuilder(text);
        int at = random.nextInt(text.length() + 1);
        char sign = "tkwe0123456789();; x~".charAt(random.nextInt(21));
        switch (random.nextInt(3)) {
            case 0 -> spoiled.insert(at, sign);
            case 1 -> spoiled.setLength(at);
            default -> {
                if (at < text.length()) {
                    spoiled.setCharAt(at, sign);
                }
            }
        }
        return spoiled.toString();
    }

    private void tell() {
        switch (random.nextInt(4)) {
            case 0 -> {
                int g = near(0, 2);
                for (int what = -1; what <= 8; what++) {
                    due("glass(" + g + ", " + what + ")", bench.glass(g, what),
                            reference.glass(g, what));
                }
            }
            case 1 -> {
                int i = near(0, 12);
                for (int what = -1; what <= 3; what++) {
                    due("event(" + i + ", " + what + ")", bench.event(i, what),
                            reference.event(i, what));
                }
            }
            default -> {
                for (int what = -1; what <= 10; what++) {
                    due("count(" + what + ")", bench.count(what), reference.count(what));
                }
            }
        }
    }

    private void plan() {
        int span = near(1, 40);
        switch (random.nextInt(4)) {
            case 0 -> due("cost(" + span + ")", bench.cost(span), reference.cost(span));
            case 1 -> {
                int last = near(0, 9);
                for (int i = 0; i <= last; i++) {
                    due("planned(" + span + ", " + i + ", true)", bench.planned(span, i, true),
                            reference.planned(span, i, true));
                    due("planned(" + span + ", " + i + ", false)",
                            bench.planned(span, i, false), reference.planned(span, i, false));
                }
            }
            case 2 -> {
                int i = near(-1, 39);
                int most = near(0, 9);
                due("measurable(" + i + ", " + most + ")", bench.measurable(i, most),
                        reference.measurable(i, most));
            }
            default -> due("digest()", bench.digest(), reference.digest());
        }
    }
}
