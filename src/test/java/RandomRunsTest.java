import java.util.ArrayList;
import java.util.List;
import java.util.Random;

/** Long runs of drawn calls (always the same ones), each answer held against PlainModel's. */
public final class RandomRunsTest {
    private static final int RUNS = 2400, CALLS = 512;
    private static final int[] EDGES = {Integer.MIN_VALUE, -100, -2, -1, 0, 1, 5, 6, 9, 10, 19, 20, 59, 60, 61,
        100, 101, 255, 256, 599, 600, 2020, Integer.MAX_VALUE};
    private static final String SIGNS = "hnpilc0123456789+-*/%<=>|&!()?;";

    private final Checks checks = new Checks();
    private final Random dice;
    private final WhoPrompts real = new WhoPrompts();
    private final PlainModel plain = new PlainModel();
    private final List<String> run = new ArrayList<>();
    private final int words, parts, factBits;

    private RandomRunsTest(long seed) {
        dice = new Random(seed);
        words = 1 + dice.nextInt(10);
        parts = 1 + dice.nextInt(6);
        factBits = dice.nextInt(4) == 0 ? 0 : 1 + dice.nextInt(8);
    }

    public static void main(String[] args) {
        for (int seed = 0; seed < RUNS; seed++) {
            RandomRunsTest test = new RandomRunsTest(seed);
            while (test.run.size() < CALLS && !test.checks.anyWrong()) {
                test.step(test.dice.nextInt(100));
            }
            if (test.checks.anyWrong()) {
                System.out.println("run " + seed + " (" + test.plain + "):");
                test.run.forEach(call -> System.out.println("  " + call));
                System.exit(1);
            }
        }
        System.out.println(RUNS + " runs of " + CALLS + " calls as due");
    }

    /** Mostly a number within the bounds, now and then one just or far outside. */
    private int num(int low, int high) {
        int kind = dice.nextInt(40);
        if (kind == 0) {
            return EDGES[dice.nextInt(EDGES.length)];
        }
        if (kind == 1) {
            return dice.nextBoolean() ? low - 1 : high + 1;
        }
        return low + dice.nextInt(Math.max(1, high - low + 1));
    }

    private int someLine() {
        return num(0, Math.max(0, plain.count(0) - 1));
    }

    private int twoLines() {
        return someLine() * 100 + someLine();
    }

    private int facts() {
        return dice.nextInt(3) == 0 ? dice.nextInt(1 << factBits) & dice.nextInt(256) : 0;
    }

    private void due(String call, long got, long want) {
        // What an object answers behind its 512th call is free.
        if (run.size() < CALLS) {
            run.add(call + " -> " + want);
            checks.due(call, got, want);
        }
    }

    private static String text(String name, long... args) {
        StringBuilder out = new StringBuilder(name).append('(');
        for (int k = 0; k < args.length; k++) {
            out.append(k == 0 ? "" : ", ").append(args[k]);
        }
        return out.append(')').toString();
    }

    private void step(int die) {
        if (die < 22) {
            stepPlay(die);
        } else if (die < 30) {
            stepLaw();
        } else if (die < 60) {
            stepNights(die % 10);
        } else if (die < 76) {
            stepDoing(die - 60);
        } else {
            stepShelves(die - 76);
        }
        if (dice.nextInt(4) == 0) {
            int what = num(0, 4);
            due(text("count", what), real.count(what), plain.count(what));
        }
    }

    private void stepPlay(int die) {
        int a, b, c;
        if (die < 8) {
            a = dice.nextInt(20) == 0 ? num(0, 599)
                : dice.nextInt(parts) * 100 + dice.nextInt(words) * 10 + dice.nextInt(words);
            b = num(1, 30);
            c = dice.nextInt(20) == 0 ? num(0, 255255) : facts() * 1000 + facts();
            due(text("line", a, b, c), real.line(a, b, c), plain.line(a, b, c));
        } else if (die < 9) {
            a = num(0, 5);
            b = num(-2, 20);
            c = num(1, 12);
            due(text("lines", a, b, c), real.lines(a, b, c), plain.lines(a, b, c));
        } else if (die < 10) {
            a = num(0, 1);
            b = num(0, 9);
            due(text("set", a, b), real.set(a, b), plain.set(a, b));
        } else if (die < 14) {
            b = num(0, 1);
            a = b == 0 ? someLine() : num(0, 5);
            // Now and then to what it is already, which is no CHANGE.
            c = dice.nextInt(4) == 0 ? plain.of(a, b == 0 ? 6 : 10) : b == 0 ? num(0, 100) : num(0, 9);
            due(text("mend", a, b, c), real.mend(a, b, c), plain.mend(a, b, c));
        } else if (die < 20) {
            b = num(0, 11);
            a = b < 10 ? someLine() : num(0, 5);
            due(text("of", a, b), real.of(a, b), plain.of(a, b));
        } else {
            a = someLine();
            due(text("rehearse", a), real.rehearse(a), plain.rehearse(a));
        }
    }

    private String someLaw(int depth) {
        int kind = dice.nextInt(depth > 4 ? 2 : 8);
        switch (kind) {
            case 0:
                return String.valueOf(dice.nextInt(dice.nextInt(4) == 0 ? 10000 : 100));
            case 1:
                return String.valueOf(SIGNS.charAt(dice.nextInt(6)));
            case 2:
                return "(" + someLaw(depth + 1) + ")";
            case 3:
                return (dice.nextBoolean() ? "!" : "-") + someLaw(depth + 1);
            case 4:
                return someLaw(depth + 1) + "|&<=>".charAt(dice.nextInt(5)) + someLaw(depth + 1);
            default:
                return someLaw(depth + 1) + "+-*/%".charAt(dice.nextInt(5)) + someLaw(depth + 1);
        }
    }

    private String lawText() {
        if (dice.nextInt(8) == 0) {
            StringBuilder wild = new StringBuilder();
            for (int k = dice.nextInt(12); k > 0; k--) {
                wild.append(dice.nextInt(20) == 0 ? (char) dice.nextInt(256) : SIGNS.charAt(dice.nextInt(SIGNS.length())));
            }
            return wild.toString();
        }
        StringBuilder out = new StringBuilder();
        for (int k = dice.nextInt(3); k >= 0; k--) {
            out.append(dice.nextInt(3) > 0 ? someLaw(1) + "?" : "").append(someLaw(0)).append(k > 0 ? ";" : "");
        }
        if (dice.nextInt(4) == 0 && out.length() > 0) {
            out.setCharAt(dice.nextInt(out.length()), SIGNS.charAt(dice.nextInt(SIGNS.length())));
        }
        return out.toString();
    }

    private void stepLaw() {
        String law = lawText();
        for (int k = 0; k < law.length(); k++) {
            int letter = dice.nextInt(400) == 0 ? num(0, 255) : law.charAt(k);
            due(text("feed", letter), real.feed(letter), plain.feed(letter));
        }
        int which = num(0, 1);
        due(text("law", which) + " [" + law + "]", real.law(which), plain.law(which));
        for (int i = 0; i < plain.count(0); i++) {
            due(text("of", i, 7), real.of(i, 7), plain.of(i, 7));
            due(text("of", i, 8), real.of(i, 8), plain.of(i, 8));
        }
    }

    private void stepNights(int die) {
        int a, b, c;
        if (die == 0) {
            a = dice.nextInt();
            due(text("night", a), real.night(a), plain.night(a));
        } else if (die == 1) {
            a = num(0, 4);
            due(text("told", a), real.told(a), plain.told(a));
        } else if (die < 5) {
            a = num(0, Math.max(0, plain.told(0))) + (dice.nextInt(20) == 0 ? 60 : 0);
            b = num(0, 2);
            due(text("said", a, b), real.said(a, b), plain.said(a, b));
        } else if (die == 5) {
            a = dice.nextInt();
            b = num(1, 20);
            c = num(0, 4);
            due(text("mean", a, b, c), real.mean(a, b, c), plain.mean(a, b, c));
        } else if (die == 6) {
            stepTape();
        } else if (die == 7) {
            a = num(0, 1);
            b = num(-1, 30);
            due(text("jumps", a, b), real.jumps(a, b), plain.jumps(a, b));
        } else if (die == 8) {
            a = twoLines();
            due(text("behind", a), real.behind(a), plain.behind(a));
        } else {
            a = twoLines();
            b = num(-1, 6);
            due(text("way", a, b), real.way(a, b), plain.way(a, b));
        }
    }

    /** Mostly a tape that follows a night, so that it is one that may be. */
    private void stepTape() {
        int shelf = num(0, 5);
        int size = num(0, Math.max(0, Math.min(60, plain.told(0))));
        if (dice.nextInt(4) > 0) {
            due(text("row", shelf, 0, size), real.row(shelf, 0, size), plain.row(shelf, 0, size));
            for (int k = 0; k < Math.min(size, 60); k++) {
                int v = dice.nextInt(60) == 0 ? num(0, 20) : Math.max(0, plain.said(k, 0));
                due(text("put", shelf, k, v), real.put(shelf, k, v), plain.put(shelf, k, v));
            }
        }
        int what = num(0, 1);
        due(text("tape", shelf, what), real.tape(shelf, what), plain.tape(shelf, what));
    }

    private void stepDoing(int die) {
        int a, b = num(0, 1);
        if (die < 2) {
            a = num(0, 5);
            due(text("prompt", a, b), real.prompt(a, b), plain.prompt(a, b));
        } else if (die < 4) {
            a = num(0, 30);
            b = num(-1, Math.max(0, plain.count(0) - 1));
            due(text("evenings", a, b), real.evenings(a, b), plain.evenings(a, b));
        } else if (die < 6) {
            // All sets of a long play are many for the model.
            if (plain.count(0) < 17 || dice.nextInt(20) == 0) {
                a = num(0, 3);
                due(text("cut", a, b), real.cut(a, b), plain.cut(a, b));
            }
        } else if (die < 8) {
            a = num(0, 5) * 10 + num(0, 5);
            if (a < 0 || a > 55 || plain.of(a / 10, 11) < 15) {
                due(text("newspaper", a, b), real.newspaper(a, b), plain.newspaper(a, b));
            }
        } else if (die == 8 && dice.nextBoolean()) {
            due("image()", real.image(), plain.image());
        } else if (die == 9 && dice.nextInt(4) == 0) {
            due("back()", real.back(), plain.back());
        } else if (die < 13) {
            due("undo()", real.undo(), plain.undo());
        } else {
            due("redo()", real.redo(), plain.redo());
        }
    }

    private void stepShelves(int die) {
        int a = num(0, 5), b, c;
        if (die < 2) {
            a = num(0, 7);
            due(text("body", a), real.body(a), plain.body(a));
        } else if (die < 6) {
            a = num(0, Math.max(0, plain.count(3) - 1));
            b = num(0, 3);
            c = dice.nextInt(4) == 0 ? dice.nextInt() : num(0, 100);
            due(text("act", a, b, c), real.act(a, b, c), plain.act(a, b, c));
            for (int k = -1; k <= plain.count(4); k++) {
                due(text("trace", k), real.trace(k), plain.trace(k));
            }
        } else if (die < 8) {
            b = num(-1, Math.max(0, plain.count(3) - 1));
            due(text("keep", a, b), real.keep(a, b), plain.keep(a, b));
        } else if (die < 10) {
            b = num(0, 4);
            c = num(0, dice.nextBoolean() ? 60 : 12);
            due(text("row", a, b, c), real.row(a, b, c), plain.row(a, b, c));
        } else if (die < 13) {
            b = num(0, 10);
            long v = dice.nextBoolean() ? dice.nextLong() : dice.nextInt(12);
            due(text("put", a, b, v), real.put(a, b, v), plain.put(a, b, v));
        } else if (die < 16) {
            b = num(0, 10);
            due(text("element", a, b), real.element(a, b), plain.element(a, b));
        } else if (die < 19) {
            stepShift();
        } else if (die < 21) {
            b = num(0, 7);
            due(text("taken", a, b), real.taken(a, b), plain.taken(a, b));
        } else if (die < 22) {
            stepLinesFromRow();
        } else {
            b = num(0, 7);
            due(text("trace", b), real.trace(b), plain.trace(b));
        }
    }

    private void stepShift() {
        int from = num(0, 5), to = dice.nextInt(3) == 0 ? from : num(0, 5);
        int i = num(0, 8), j = num(0, 8), n = num(0, 8);
        due(text("shift", from, i, to, j, n), real.shift(from, i, to, j, n), plain.shift(from, i, to, j, n));
        for (int k = 0; k < 20; k++) {
            due(text("element", to, k), real.element(to, k), plain.element(to, k));
        }
    }

    private void stepLinesFromRow() {
        int shelf = dice.nextInt(6), size = dice.nextInt(21);
        due(text("row", shelf, 1, size), real.row(shelf, 1, size), plain.row(shelf, 1, size));
        for (int k = 0; k < size; k++) {
            int[] high = {5, 9, 9, 30, 255};
            int v = dice.nextInt(15) == 0 ? num(0, 300) : num(k % 5 == 3 ? 1 : 0, high[k % 5]);
            due(text("put", shelf, k, v), real.put(shelf, k, v), plain.put(shelf, k, v));
        }
        int i = num(-1, 6), n = num(1, 12);
        due(text("lines", shelf, i, n), real.lines(shelf, i, n), plain.lines(shelf, i, n));
    }
}
