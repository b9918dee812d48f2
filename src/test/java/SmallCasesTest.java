/**
 * All short texts, all nets of two transitions between three places, and all pairs of structures of three events that
 * differ in one label or one pair, each answer compared with that of the model.
 */
public final class SmallCasesTest {
    private static final String SIGNS = "ab0()+|;x";
    private static final int LONGEST_TEXT = 5;
    private static final int PLACES = 3;
    private static final int PLACE_SETS = 1 << PLACES;
    private static final int EVENTS = 3;
    /** A bit for the label of each event, and a bit each for the cause pair and the conflict pair of two events. */
    private static final int KINDS_OF_STRUCTURE_BITS = EVENTS + EVENTS * (EVENTS - 1);

    private final String what;
    private final EventStructures x = new EventStructures();
    private final Model model = new Model();

    private SmallCasesTest(String what) {
        this.what = what;
    }

    /** Makes one call on the program and on the model; gives the model's answer. */
    private int both(String line) {
        int want = Script.call(model, line);
        Checks.due(what + ": " + line, Script.call(x, line), want);
        return want;
    }

    private static String line(String name, int... arguments) {
        StringBuilder made = new StringBuilder(name);
        for (int argument : arguments) {
            made.append(' ').append(argument);
        }
        return made.toString();
    }

    private void describe(int s) {
        int count = both(line("eventCount", s));
        both(line("configurationCount", s));
        both(line("concurrentPairs", s));
        both(line("wordCount", s));
        for (int e = 0; e < count; e++) {
            both(line("label", s, e));
            both(line("history", s, e));
            for (int f = 0; f <= e; f++) {
                both(line("areInConflict", s, e, f));
            }
        }
    }

    private static void texts(String text) {
        SmallCasesTest test = new SmallCasesTest("text " + text);
        for (char c : text.toCharArray()) {
            test.both(line("append", c));
        }
        int answer = test.both("parse 0");
        if (answer > 0) {
            test.describe(0);
            test.both(line("shortestTime", 0, test.both("maximalConfiguration 0 0")));
        }
        for (int i = 0; text.length() < LONGEST_TEXT && i < SIGNS.length(); i++) {
            texts(text + SIGNS.charAt(i));
        }
    }

    private static void net(int marking, int[] inputs, int[] outputs) {
        SmallCasesTest test = new SmallCasesTest("net " + marking + " with " + inputs[0] + " to " + outputs[0] + " and "
                + inputs[1] + " to " + outputs[1]);
        for (int p = 0; p < PLACES; p++) {
            test.both("addPlace " + Model.has(marking, p));
        }
        for (int t = 0; t < inputs.length; t++) {
            test.both(line("addTransition", inputs[t], outputs[t], t));
        }
        if (test.both("unfold 0") > 0) {
            test.describe(0);
        }
        test.both("conditionCount");
    }

    private static void nets() {
        for (int marking = 0; marking < PLACE_SETS; marking++) {
            for (int code = 0; code < PLACE_SETS * PLACE_SETS * PLACE_SETS * PLACE_SETS; code++) {
                int[] inputs = {code % PLACE_SETS, code / PLACE_SETS % PLACE_SETS};
                int rest = code / PLACE_SETS / PLACE_SETS;
                int[] outputs = {rest % PLACE_SETS, rest / PLACE_SETS};
                if (inputs[0] != 0 && inputs[1] != 0) {
                    net(marking, inputs, outputs);
                }
            }
        }
    }

    private void build(int s, int kind) {
        int rest = kind;
        for (int e = 0; e < EVENTS; e++) {
            both(line("addEvent", s, rest & 1, 1));
            rest >>= 1;
        }
        for (int e = 0; e < EVENTS; e++) {
            for (int f = e + 1; f < EVENTS; f++) {
                if ((rest & 1) != 0) {
                    both(line("addCause", s, e, f));
                }
                if ((rest & 2) != 0) {
                    both(line("addConflict", s, e, f));
                }
                rest >>= 2;
            }
        }
    }

    private static void pair(int first, int second) {
        SmallCasesTest test = new SmallCasesTest("structures " + first + " and " + second);
        test.build(0, first);
        test.build(1, second);
        for (int kind = 0; kind < 2; kind++) {
            test.both(line("areBisimilar", kind));
            test.both(line("separationRound", kind));
            test.both(line("equivalenceClasses", kind));
        }
        int length = test.both("wordDifferenceLength");
        for (int index = -1; index <= length; index++) {
            test.both(line("wordDifferenceLabel", index));
        }
        for (int set = 0; set < 1 << EVENTS; set++) {
            for (String name : new String[] {"enabled", "stepCount", "largestStep", "runCount", "stepRunCount"}) {
                test.both(line(name, 0, set));
            }
        }
    }

    private static void pairs() {
        for (int first = 0; first < 1 << KINDS_OF_STRUCTURE_BITS; first++) {
            for (int bit = 0; bit < KINDS_OF_STRUCTURE_BITS; bit++) {
                pair(first, first ^ 1 << bit);
            }
        }
    }

    public static void main(String[] args) {
        texts("");
        nets();
        pairs();
        Checks.finish();
    }
}
