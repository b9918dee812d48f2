/**
 * Runs of at most 512 calls on new objects, the calls and their arguments drawn by a fixed rule, each answer compared
 * with that of the model. The rule has no outside source of chance, so all runs are always the same.
 */
public final class RandomRunsTest {
    private static final int RUNS = 800;
    private static final int MOST_CALLS = 512;
    /** More calls than one drawn deed makes; the longest one is a net with all questions about it. */
    private static final int LONGEST_DEED = 64;
    /** Texts go a little beyond what the buffer takes. */
    private static final int LONGEST_TEXT = 44;
    private static final int METHODS = 42;
    private static final String[] TEXTS = {"a;(b+c)", "(a|b);c", "a;b+a;c", "a|b", "a;b+b;a", "(a+b);(c|d)",
        "((a;b)+c)|(d+e)", "(a+0);b|c", "a;(b|c);d", "a|(b;c+d;e)", "(a+b)|(a+b)", "0;(a|b|a)", "a|a|b", "a;a;a+b;a",
        "(a|b)+(a;b+b;a)", "a;(b+b)", "a;b+a;b", "c;(a|b)", "c;(a;b+b;a)", "(a+b+c);(d;e)", "a|b|c|d+e;f"};
    private static final int[] ODD = {-1, 2, 6, 7, 8, 9, 31, 32, 33, 256, 1000000000, 1000000001, Integer.MIN_VALUE,
        Integer.MAX_VALUE, -2147483647, 65536};

    private final int run;
    private long state;
    private int made = 0;
    private final EventStructures x = new EventStructures();
    private final Model model = new Model();

    private RandomRunsTest(int run) {
        this.run = run;
        state = 7919L * run + 17;
    }

    /** A number from 0 to below the bound, by Knuth's linear rule. */
    private int draw(int bound) {
        state = state * 6364136223846793005L + 1442695040888963407L;
        return (int) ((state >>> 33) % bound);
    }

    private int odd() {
        return ODD[draw(ODD.length)];
    }

    private int structure() {
        return draw(60) == 0 ? odd() : draw(2);
    }

    private int event(int s) {
        int count = model.eventCount(s);
        return draw(25) == 0 || count <= 0 ? odd() : draw(count);
    }

    private int label() {
        // Few different labels make equal words, and equal moves, likely.
        return draw(40) == 0 ? odd() : draw(10) == 0 ? draw(6) : draw(3);
    }

    private int duration() {
        return draw(20) == 0 ? odd() : draw(4) == 0 ? 1000000000 - draw(3) : draw(50);
    }

    private int set(int s) {
        if (draw(20) == 0) {
            return odd();
        }
        if (draw(4) == 0 || s != 0 && s != 1) {
            return draw(256);
        }
        // A walk along enabled events, so that the set is a configuration.
        Model.Table table = model.table(s);
        int set = 0;
        for (int left = draw(9); left > 0; left--) {
            int e = draw(8);
            set |= Model.has(table.open(set), e) ? 1 << e : 0;
        }
        return set;
    }

    private int places() {
        return draw(25) == 0 ? odd() : draw(3) == 0 ? 1 << draw(4) | 1 << draw(4) : 1 << draw(4);
    }

    private boolean fewStates() {
        return model.configurationCount(0) + model.configurationCount(1) <= 60;
    }

    private void due(int call, String name, int got, int want) {
        made++;
        Checks.due("run " + run + ", call " + call + ": " + name, got, want);
    }

    private void calls() {
        for (int call = 0; made + LONGEST_DEED <= MOST_CALLS; call++) {
            int method = draw(METHODS + 12);
            if (method < 8) {
                change(call, method);
            } else if (method < 23) {
                ask(call, method, structure());
            } else if (method < 33) {
                compare(call, method);
            } else if (method < 40) {
                unfoldOrSave(call, method);
            } else if (method < 42) {
                write(call);
            } else {
                change(call, method < 46 ? 0 : method < 51 ? 2 : 3);
            }
        }
    }

    private void change(int call, int method) {
        int s = structure();
        int e = event(s);
        int f = event(s);
        int label = label();
        switch (method) {
            case 0 -> {
                int duration = duration();
                due(call, "addEvent", x.addEvent(s, label, duration), model.addEvent(s, label, duration));
            }
            case 1 -> due(call, "removeEvent", x.removeEvent(s, e), model.removeEvent(s, e));
            case 2 -> {
                // Mostly along the numbers, so that cycles do not get the upper hand.
                int cause = draw(4) > 0 ? Math.min(e, f) : e;
                int effect = cause == e ? f : e;
                due(call, "addCause", x.addCause(s, cause, effect), model.addCause(s, cause, effect));
            }
            case 3 -> due(call, "addConflict", x.addConflict(s, e, f), model.addConflict(s, e, f));
            case 4 -> due(call, "setLabel", x.setLabel(s, e, label), model.setLabel(s, e, label));
            case 5 -> {
                int often = draw(5);
                if (often == 0) {
                    due(call, "clear", x.clear(s), model.clear(s));
                }
            }
            case 6 -> {
                int to = structure();
                due(call, "copy", x.copy(s, to), model.copy(s, to));
            }
            default -> {
                int a = label();
                int b = label();
                boolean inSequence = draw(2) == 0;
                due(call, "refine", x.refine(s, label, a, b, inSequence), model.refine(s, label, a, b, inSequence));
            }
        }
    }

    private void ask(int call, int method, int s) {
        int e = event(s);
        int f = event(s);
        int set = set(s);
        switch (method) {
            case 8 -> due(call, "label", x.label(s, e), model.label(s, e));
            case 9 -> due(call, "isBelow", x.isBelow(s, e, f), model.isBelow(s, e, f));
            case 10 -> due(call, "areInConflict", x.areInConflict(s, e, f), model.areInConflict(s, e, f));
            case 11 -> due(call, "history", x.history(s, e), model.history(s, e));
            case 12 -> {
                due(call, "concurrentPairs", x.concurrentPairs(s), model.concurrentPairs(s));
                due(call, "eventCount", x.eventCount(s), model.eventCount(s));
            }
            case 13 -> due(call, "isConfiguration", x.isConfiguration(s, set), model.isConfiguration(s, set));
            case 14 -> {
                int index = draw(20) == 0 ? odd() : draw(5);
                due(call, "configurationCount", x.configurationCount(s), model.configurationCount(s));
                due(call, "maximalCount", x.maximalCount(s), model.maximalCount(s));
                due(call, "maximalConfiguration", x.maximalConfiguration(s, index),
                        model.maximalConfiguration(s, index));
            }
            case 15 -> due(call, "enabled", x.enabled(s, set), model.enabled(s, set));
            case 16 -> due(call, "stepCount", x.stepCount(s, set), model.stepCount(s, set));
            case 17 -> due(call, "largestStep", x.largestStep(s, set), model.largestStep(s, set));
            case 18 -> {
                int some = Integer.bitCount(set) > 5 ? 0 : set;
                due(call, "runCount", x.runCount(s, some), model.runCount(s, some));
                due(call, "stepRunCount", x.stepRunCount(s, some), model.stepRunCount(s, some));
            }
            case 19 -> {
                due(call, "shortestTime", x.shortestTime(s, set), model.shortestTime(s, set));
                due(call, "totalTime", x.totalTime(s, set), model.totalTime(s, set));
            }
            case 20 -> due(call, "occur", x.occur(s, e), model.occur(s, e));
            case 21 -> due(call, "withdraw", x.withdraw(s, e), model.withdraw(s, e));
            default -> due(call, "current", x.current(s), model.current(s));
        }
    }

    private void compare(int call, int method) {
        int kind = draw(20) == 0 ? odd() : draw(2);
        if (method > 26 || !fewStates()) {
            return;
        }
        if (draw(2) == 0) {
            makeAlike(call);
        }
        if (method == 23) {
            due(call, "areBisimilar", x.areBisimilar(kind), model.areBisimilar(kind));
            due(call, "separationRound", x.separationRound(kind), model.separationRound(kind));
            due(call, "equivalenceClasses", x.equivalenceClasses(kind), model.equivalenceClasses(kind));
        } else if (method == 24) {
            int index = draw(20) == 0 ? odd() : draw(4);
            due(call, "wordDifferenceLength", x.wordDifferenceLength(), model.wordDifferenceLength());
            due(call, "wordDifferenceLabel", x.wordDifferenceLabel(index), model.wordDifferenceLabel(index));
        } else {
            int s = structure();
            due(call, "wordCount", x.wordCount(s), model.wordCount(s));
        }
    }

    /** Makes the second structure a copy of the first one with a small difference, or with none. */
    private void makeAlike(int call) {
        due(call, "copy", x.copy(0, 1), model.copy(0, 1));
        int e = event(1);
        int f = event(1);
        switch (draw(4)) {
            case 0 -> due(call, "addCause", x.addCause(1, e, f), model.addCause(1, e, f));
            case 1 -> due(call, "addConflict", x.addConflict(1, e, f), model.addConflict(1, e, f));
            case 2 -> {
                int label = draw(3);
                due(call, "setLabel", x.setLabel(1, e, label), model.setLabel(1, e, label));
            }
            default -> due(call, "current", x.current(1), model.current(1));
        }
    }

    private void unfoldOrSave(int call, int method) {
        switch (method) {
            case 33 -> {
                boolean marked = draw(2) == 0;
                due(call, "addPlace", x.addPlace(marked), model.addPlace(marked));
            }
            case 34, 35 -> {
                int inputs = places();
                int outputs = draw(3) == 0 ? 0 : places();
                int label = label();
                due(call, "addTransition", x.addTransition(inputs, outputs, label),
                        model.addTransition(inputs, outputs, label));
            }
            case 36 -> makeNet(call);
            case 37 -> due(call, "conditionCount", x.conditionCount(), model.conditionCount());
            case 38 -> due(call, "save", x.save(), model.save());
            default -> {
                if (draw(3) == 0) {
                    due(call, "restore", x.restore(), model.restore());
                } else {
                    unfold(call);
                }
            }
        }
    }

    private void unfold(int call) {
        int s = structure();
        due(call, "unfold", x.unfold(s), model.unfold(s));
        due(call, "conditionCount", x.conditionCount(), model.conditionCount());
    }

    /** A net whose transitions mostly lead on to later places, so that some of its unfoldings end. */
    private void makeNet(int call) {
        due(call, "clearNet", x.clearNet(), model.clearNet());
        for (int p = 0; p < 6; p++) {
            boolean marked = p < 3;
            due(call, "addPlace", x.addPlace(marked), model.addPlace(marked));
        }
        for (int t = draw(7); t > 0; t--) {
            int from = draw(5);
            int inputs = 1 << from | (draw(2) == 0 ? 1 << draw(from + 1) : 0);
            int outputs = draw(64) >> (from + 1) << (from + 1);
            int label = draw(3);
            due(call, "addTransition", x.addTransition(inputs, outputs, label),
                    model.addTransition(inputs, outputs, label));
        }
        unfold(call);
        int s = draw(2);
        for (int e = 0; e < model.eventCount(s); e++) {
            due(call, "label", x.label(s, e), model.label(s, e));
            due(call, "history", x.history(s, e), model.history(s, e));
            for (int f = 0; f < e; f++) {
                due(call, "areInConflict", x.areInConflict(s, e, f), model.areInConflict(s, e, f));
            }
        }
    }

    private String text() {
        if (draw(3) == 0) {
            return TEXTS[draw(TEXTS.length)];
        }
        StringBuilder made = new StringBuilder();
        term(made, 3);
        if (draw(3) == 0 && made.length() > 0) {
            made.setCharAt(draw(made.length()), "abf0()+|;g 1".charAt(draw(12)));
        }
        if (draw(8) == 0) {
            made.setLength(draw(made.length() + 1));
        }
        made.setLength(Math.min(made.length(), LONGEST_TEXT));
        return made.toString();
    }

    private void term(StringBuilder made, int depth) {
        int parts = 1 + draw(3);
        for (int i = 0; i < parts; i++) {
            if (i > 0) {
                made.append("+|;;".charAt(draw(4)));
            }
            if (depth > 0 && draw(3) == 0) {
                made.append('(');
                term(made, depth - 1);
                made.append(')');
            } else {
                made.append("abcabcdef0".charAt(draw(10)));
            }
        }
    }

    private void write(int call) {
        String text = text();
        for (int i = 0; i < text.length(); i++) {
            due(call, "append", x.append(text.charAt(i)), model.append(text.charAt(i)));
        }
        if (draw(10) == 0) {
            int c = draw(2) == 0 ? odd() : 32 + draw(95);
            due(call, "append", x.append(c), model.append(c));
        }
        int s = structure();
        if (draw(12) > 0) {
            due(call, "parse " + text, x.parse(s), model.parse(s));
        }
    }

    public static void main(String[] args) {
        int runs = args.length > 0 ? Integer.parseInt(args[0]) : RUNS;
        for (int run = 0; run < runs; run++) {
            new RandomRunsTest(run).calls();
        }
        Checks.finish();
    }
}
