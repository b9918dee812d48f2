import java.util.ArrayList;
import java.util.List;

/**
 * Each method with every combination of arguments at the edges of their ranges, from an empty, a rich and a full
 * object, each answer compared with that of the model.
 */
public final class EdgeGridTest {
    private static final int MOST_CALLS = 512;
    /** Methods that change something, and what kinds of arguments they take. */
    private static final String[] CHANGES = {"addEvent sld", "removeEvent se", "addCause see", "addConflict see",
        "setLabel sel", "clear s", "copy ss", "occur se", "withdraw se", "refine slllb", "clearNet", "addPlace b",
        "addTransition ppl", "unfold s", "append c", "parse s", "save", "restore"};
    /** Methods that only answer. */
    private static final String[] QUESTIONS = {"eventCount s", "label se", "isBelow see", "areInConflict see",
        "history se", "concurrentPairs s", "isConfiguration sS", "configurationCount s", "maximalCount s",
        "maximalConfiguration si", "enabled sS", "stepCount sS", "largestStep sS", "runCount sS", "stepRunCount sS",
        "shortestTime sS", "totalTime sS", "current s", "areBisimilar k", "separationRound k",
        "equivalenceClasses k", "wordDifferenceLength", "wordDifferenceLabel i", "wordCount s", "conditionCount"};
    private static final String[] NAMES = {"empty", "rich", "full"};
    private static final String[] BASES = {"", Bases.RICH + "write a;(b+\n", Bases.FULL + Bases.LONGEST_TEXT};
    private static final int LOWEST = Integer.MIN_VALUE;
    private static final int HIGHEST = Integer.MAX_VALUE;

    private final String base;
    private EventStructures x = new EventStructures();
    private Model model = new Model();
    private int made = MOST_CALLS;

    private EdgeGridTest(String base) {
        this.base = base;
    }

    private static Object[] edges(char kind, boolean isQuestion) {
        switch (kind) {
            case 's':
                return new Object[] {-1, 0, 1, 2};
            case 'e':
                return isQuestion ? new Object[] {LOWEST, -1, 0, 1, 2, 3, 4, 5, 6, 7, 8, 32, HIGHEST}
                        : new Object[] {-1, 0, 1, 2, 3, 4, 5, 7, 8};
            case 'l':
                return new Object[] {-1, 0, 5, 6};
            case 'd':
                return new Object[] {-1, 0, 1000000000, 1000000001};
            case 'p':
                return new Object[] {-1, 0, 1, 4, 7, 8, 32, 63, 64};
            case 'c':
                return new Object[] {LOWEST, -1, 0, 31, 32, 97, 126, 127, 353, HIGHEST};
            case 'i':
                return new Object[] {LOWEST, -1, 0, 1, 2, 3, 4, 7, 8, HIGHEST};
            case 'k':
                return new Object[] {LOWEST, -1, 0, 1, 2, HIGHEST};
            case 'b':
                return new Object[] {false, true};
            default:
                List<Object> sets = new ArrayList<>(List.of(LOWEST, LOWEST + 1, -256, -255, 512, 65536, HIGHEST));
                for (int set = -1; set <= 257; set++) {
                    sets.add(set);
                }
                return sets.toArray();
        }
    }

    private void renew() {
        x = new EventStructures();
        model = new Model();
        List<Integer> answers = Script.run(x, base);
        Checks.due("the base", answers.equals(Script.run(model, base)) ? 1 : 0, 1);
        made = answers.size();
    }

    private void due(String name, Object... arguments) {
        made++;
        int got = Script.call(x, name, arguments);
        Checks.due(name + java.util.Arrays.toString(arguments), got, Script.call(model, name, arguments));
    }

    /** What can be seen at once after a change. */
    private void dueState() {
        for (int s = 0; s < 2; s++) {
            due("eventCount", s);
            due("current", s);
            for (int e = 0; e < model.eventCount(s); e++) {
                due("label", s, e);
                due("history", s, e);
                due("areInConflict", s, e, 0);
            }
        }
        due("append", 97);
        due("parse", 0);
        due("addPlace", false);
        due("restore");
        due("current", 1);
    }

    private void tryMethod(String row, boolean isQuestion) {
        String[] words = row.split(" ");
        String kinds = words.length > 1 ? words[1] : "";
        tryArguments(words[0], kinds, new Object[kinds.length()], 0, isQuestion);
    }

    private void tryArguments(String name, String kinds, Object[] arguments, int filled, boolean isQuestion) {
        if (filled < arguments.length) {
            for (Object edge : edges(kinds.charAt(filled), isQuestion)) {
                arguments[filled] = edge;
                tryArguments(name, kinds, arguments, filled + 1, isQuestion);
            }
            return;
        }
        if (!isQuestion || made >= MOST_CALLS) {
            renew();
        }
        due(name, arguments);
        if (!isQuestion) {
            dueState();
        }
    }

    public static void main(String[] args) {
        for (int base = 0; base < BASES.length; base++) {
            EdgeGridTest test = new EdgeGridTest(BASES[base]);
            for (String row : CHANGES) {
                Checks.sentence(row + " of the " + NAMES[base] + " object");
                test.tryMethod(row, false);
            }
            test.renew();
            for (String row : QUESTIONS) {
                Checks.sentence(row + " of the " + NAMES[base] + " object");
                test.tryMethod(row, true);
            }
        }
        Checks.finish();
    }
}
