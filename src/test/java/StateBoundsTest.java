import java.util.ArrayList;
import java.util.List;

/**
 * What calls leave as it was: refused ones leave all, questions leave all, changes of a structure leave all but that
 * structure. Each call is made on one of two objects that are alike, and then both are asked for all that they show.
 */
public final class StateBoundsTest implements Codes {
    private static final int MOST_CALLS = 512;

    private StateBoundsTest() {
    }

    private static void sentence(String text) {
        Checks.sentence(text);
    }

    private static void due(String call, long got, long want) {
        Checks.due(call, got, want);
    }

    // All that an object shows. Asking changes it, so each object is asked once.

    private static void showStructures(EventStructures x, List<Integer> shown) {
        for (int s = 0; s < 2; s++) {
            shown.add(x.eventCount(s));
            shown.add(x.current(s));
            shown.add(x.concurrentPairs(s));
            shown.add(x.configurationCount(s));
            shown.add(x.maximalCount(s));
            for (int e = 0; e < 8; e++) {
                shown.add(x.label(s, e));
                shown.add(x.history(s, e));
                shown.add(x.totalTime(s, x.history(s, e)));
            }
        }
    }

    private static void showComparisons(EventStructures x, List<Integer> shown) {
        for (int kind = 0; kind < 2; kind++) {
            shown.add(x.wordCount(kind));
            shown.add(x.separationRound(kind));
            shown.add(x.equivalenceClasses(kind));
        }
        shown.add(x.wordDifferenceLength());
        shown.add(x.conditionCount());
    }

    private static void showPairs(EventStructures x, List<Integer> shown) {
        for (int s = 0; s < 2; s++) {
            for (int e = 0; e < 8; e++) {
                for (int f = 0; f < e; f++) {
                    shown.add(x.addConflict(s, e, f));
                    shown.add(x.addCause(s, f, e));
                    shown.add(x.addCause(s, e, f));
                }
            }
        }
    }

    private static void showEvents(EventStructures x, List<Integer> shown) {
        for (int e = 0; e < 8; e++) {
            shown.add(x.label(0, e));
            shown.add(x.history(0, e));
        }
    }

    private static void showNet(EventStructures x, List<Integer> shown) {
        shown.add(x.unfold(0));
        shown.add(x.conditionCount());
        showEvents(x, shown);
        shown.add(x.addTransition(1, 0, 0));
        shown.add(x.addPlace(false));
    }

    private static void showText(EventStructures x, List<Integer> shown) {
        shown.add(x.append('a'));
        shown.add(x.parse(0));
        showEvents(x, shown);
    }

    private static List<Integer> show(EventStructures x) {
        List<Integer> shown = new ArrayList<>();
        showStructures(x, shown);
        showComparisons(x, shown);
        showPairs(x, shown);
        showText(x, shown);
        showNet(x, shown);
        shown.add(x.restore());
        showStructures(x, shown);
        showNet(x, shown);
        return shown;
    }

    private static void dueAlike(String call, EventStructures x, EventStructures y) {
        List<Integer> shown = show(x);
        List<Integer> want = show(y);
        due(call + ": as many answers", shown.size(), want.size());
        for (int i = 0; i < want.size(); i++) {
            due(call + ": answer " + i + " afterwards", shown.get(i), want.get(i));
        }
    }

    /** Tries rows such as "addEvent 2 0 0 = -1", each on an object of its own. */
    private static void dueRefused(String base, String text, String rows) {
        for (String row : rows.split("\n")) {
            String[] sides = row.split(" = ");
            EventStructures x = Bases.make(base, text);
            due(sides[0], Script.call(x, sides[0]), Integer.parseInt(sides[1].trim()));
            dueAlike(sides[0], x, Bases.make(base, text));
        }
    }

    // Refused calls, and the order of the checks

    private static void refusedChangesOfEvents() {
        sentence("Errors: A method that returns an error code leaves the state unchanged; If several errors apply, "
                + "the one that is listed first is returned (2 to 8)");
        dueRefused(Bases.RICH, "write a;b+\n", """
                addEvent -1 0 0 = -1
                addEvent 2 -1 -1 = -1
                addEvent 0 -1 0 = -2
                addEvent 0 6 0 = -2
                addEvent 1 0 -1 = -2
                addEvent 1 0 1000000001 = -2
                removeEvent -1 0 = -1
                removeEvent 2 9 = -1
                removeEvent 0 -1 = -1
                removeEvent 0 5 = -1
                removeEvent 1 3 = -1
                addCause -1 0 0 = -1
                addCause 2 0 1 = -1
                addCause 0 5 5 = -1
                addCause 0 0 5 = -1
                addCause 0 -1 0 = -1
                addCause 0 3 3 = -4
                addCause 0 4 2 = -4
                addCause 1 1 0 = -4
                addConflict -1 0 0 = -1
                addConflict 2 0 1 = -1
                addConflict 0 5 5 = -1
                addConflict 0 5 0 = -1
                addConflict 0 0 -1 = -1
                addConflict 0 2 2 = -2
                addConflict 1 0 0 = -2
                setLabel -1 0 6 = -1
                setLabel 2 9 9 = -1
                setLabel 0 5 -1 = -1
                setLabel 0 -1 6 = -1
                setLabel 0 0 -1 = -2
                setLabel 1 2 6 = -2
                clear -1 = -1
                clear 2 = -1
                copy -1 0 = -1
                copy 0 2 = -1
                copy 2 1 = -1
                copy 2 2 = -1
                """);
    }

    private static void refusedOccurrences() {
        sentence("Errors: A method that returns an error code leaves the state unchanged; If several errors apply, "
                + "the one that is listed first is returned (26 and 27)");
        dueRefused(Bases.RICH, "", """
                occur -1 0 = -1
                occur 2 9 = -1
                occur 0 5 = -1
                occur 0 -1 = -1
                occur 1 3 = -1
                occur 0 0 = -5
                occur 0 4 = -5
                occur 1 1 = -5
                withdraw -1 0 = -1
                withdraw 2 9 = -1
                withdraw 0 5 = -1
                withdraw 0 -1 = -1
                withdraw 0 1 = -5
                withdraw 0 4 = -5
                withdraw 1 0 = -5
                """);
    }

    private static void refusedRefinement() {
        sentence("Errors: A method that returns an error code leaves the state unchanged; If several errors apply, "
                + "the one that is listed first is returned (35)");
        dueRefused(Bases.FULL, "", """
                refine -1 0 0 0 true = -1
                refine 2 6 6 6 false = -1
                refine 0 -1 0 0 true = -2
                refine 0 6 0 0 false = -2
                refine 0 0 -1 0 true = -2
                refine 0 0 6 0 true = -2
                refine 1 0 0 -1 false = -2
                refine 1 0 0 6 true = -2
                refine 0 0 0 0 true = -6
                refine 0 5 1 2 false = -6
                refine 1 1 0 5 true = -6
                """);
    }

    private static void refusedChangesOfTheNet() {
        sentence("Errors: A method that returns an error code leaves the state unchanged; If several errors apply, "
                + "the one that is listed first is returned (37 to 39)");
        dueRefused(Bases.RICH, "write a\n", """
                addTransition 8 0 0 = -1
                addTransition 0 8 6 = -1
                addTransition 1 -1 6 = -1
                addTransition -1 0 6 = -1
                addTransition 0 0 0 = -2
                addTransition 0 7 6 = -2
                addTransition 7 7 -1 = -2
                addTransition 1 0 6 = -2
                unfold -1 = -1
                unfold 2 = -1
                """);
        dueRefused(Bases.FULL, Bases.LONGEST_TEXT, """
                addPlace true = -3
                addPlace false = -3
                addTransition 64 0 6 = -1
                addTransition 0 64 0 = -1
                addTransition 0 0 0 = -2
                addTransition 1 0 6 = -2
                addTransition 1 0 0 = -3
                addTransition 63 63 5 = -3
                unfold 2 = -1
                unfold 0 = -6
                unfold 1 = -6
                """);
    }

    private static void refusedWhenFull() {
        sentence("Errors: A method that returns an error code leaves the state unchanged; If several errors apply, "
                + "the one that is listed first is returned (2, 41 and 44)");
        dueRefused(Bases.FULL, Bases.LONGEST_TEXT, """
                addEvent 2 6 -1 = -1
                addEvent 0 6 0 = -2
                addEvent 0 0 -1 = -2
                addEvent 1 -1 1000000001 = -2
                addEvent 0 0 0 = -3
                addEvent 1 5 1000000000 = -3
                append 31 = -2
                append 127 = -2
                append 97 = -3
                append 32 = -3
                append 126 = -3
                restore = -7
                """);
        dueRefused("", "", """
                restore = -7
                append 31 = -2
                append 127 = -2
                occur 0 0 = -1
                withdraw 1 0 = -1
                removeEvent 0 0 = -1
                addTransition 1 0 0 = -1
                addTransition 0 0 0 = -2
                """);
    }

    private static void refusedQuestions() {
        sentence("Errors: A method that returns an error code leaves the state unchanged; If several errors apply, "
                + "the one that is listed first is returned (9 to 25, 28 to 34)");
        dueRefused(Bases.RICH, "write a\n", """
                eventCount 2 = -1
                label 2 9 = -1
                label 0 5 = -1
                isBelow 2 9 9 = -1
                isBelow 0 5 5 = -1
                areInConflict 2 9 9 = -1
                areInConflict 0 0 5 = -1
                history 2 9 = -1
                history 0 5 = -1
                concurrentPairs 2 = -1
                isConfiguration 2 -1 = -1
                configurationCount 2 = -1
                maximalCount 2 = -1
                maximalConfiguration 2 -1 = -1
                maximalConfiguration 0 -1 = -7
                maximalConfiguration 0 2 = -7
                enabled 2 -1 = -1
                enabled 0 2 = -5
                stepCount 2 -1 = -1
                stepCount 0 2 = -5
                largestStep 2 -1 = -1
                largestStep 0 32 = -5
                runCount 2 -1 = -1
                runCount 0 -1 = -5
                stepRunCount 2 -1 = -1
                stepRunCount 0 32 = -5
                shortestTime 2 28 = -1
                shortestTime 0 24 = -5
                shortestTime 0 28 = -8
                totalTime 2 28 = -1
                totalTime 0 60 = -5
                totalTime 0 28 = -8
                current 2 = -1
                areBisimilar 2 = -2
                areBisimilar -1 = -2
                separationRound 2 = -2
                separationRound -1 = -2
                equivalenceClasses 2 = -2
                equivalenceClasses -1 = -2
                wordDifferenceLabel -1 = -7
                wordDifferenceLabel 8 = -7
                wordCount 2 = -1
                """);
    }

    private static void noSuchStructure() {
        sentence("2 to 28, 34, 35, 39 and 42: structure: the structure, 0 or 1; NO_SUCH_ELEMENT if there is none");
        String[] calls = {"addEvent s 0 0", "removeEvent s 0", "addCause s 0 1", "addConflict s 0 1", "setLabel s 0 1",
            "clear s", "copy s 0", "copy 1 s", "eventCount s", "label s 0", "isBelow s 0 1", "areInConflict s 0 1",
            "history s 0", "concurrentPairs s", "isConfiguration s 0", "configurationCount s", "maximalCount s",
            "maximalConfiguration s 0", "enabled s 0", "stepCount s 0", "largestStep s 0", "runCount s 0",
            "stepRunCount s 0", "shortestTime s 0", "totalTime s 0", "occur s 2", "withdraw s 0", "current s",
            "wordCount s", "refine s 5 0 0 true", "unfold s", "parse s"};
        String base = "addEvent 0 0 1\naddEvent 0 1 1\naddEvent 0 2 1\noccur 0 0\n"
                + "addEvent 1 0 1\naddEvent 1 1 1\naddEvent 1 2 1\noccur 1 0\n";
        for (String call : calls) {
            EventStructures x = Bases.make(base);
            for (int s : new int[] {LOWEST, LOWEST + 1, -256, -2, -1, 2, 3, 8, 256, 257, 65536, HIGHEST}) {
                String line = call.replace(" s", " " + s);
                due(line, Script.call(x, line), NO_SUCH_ELEMENT);
            }
            for (int s = 0; s < 2; s++) {
                String line = call.replace(" s", " " + s);
                EventStructures y = Bases.make(base, "write a\n");
                due(line + " is taken", Script.call(y, line) < 0 ? 0 : 1, 1);
            }
        }
    }

    private static void refusedTexts() {
        sentence("Errors: A method that returns an error code leaves the state unchanged, except that parse empties "
                + "the text buffer");
        String[][] rows = {{"a", "parse 2 = -1"}, {"a)", "parse -1 = -1"}, {"a|a|a|a|a|a|a|a|a", "parse 2 = -1"},
            {"a+", "parse 0 = -102"}, {"a|a|a|a|a|a|a|a|a|", "parse 1 = -118"}, {"~", "parse 1 = -100"},
            {"a|a|a|a|a|a|a|a|a", "parse 0 = -6"}, {"(a+b+c);(d|e)", "parse 1 = -6"}};
        for (String base : new String[] {Bases.RICH, Bases.FULL}) {
            for (String[] row : rows) {
                String[] sides = row[1].split(" = ");
                EventStructures x = Bases.make(base, "write " + row[0] + "\n");
                due(row[0] + ", " + sides[0], Script.call(x, sides[0]), Integer.parseInt(sides[1]));
                dueAlike(row[0] + ", " + sides[0], x, Bases.make(base));
            }
        }
    }

    // Questions that are answered

    private static void answeredQuestions() {
        sentence("9 to 25, 28 to 34, 40: a method that returns something changes nothing");
        String[] calls = {"eventCount 0", "label 0 4", "isBelow 0 2 4", "areInConflict 0 1 4", "history 0 4",
            "concurrentPairs 0", "isConfiguration 0 7", "configurationCount 0", "maximalCount 0",
            "maximalConfiguration 0 1", "enabled 0 5", "stepCount 0 5", "largestStep 0 5", "runCount 0 7",
            "stepRunCount 0 7", "shortestTime 0 7", "totalTime 0 7", "current 0", "areBisimilar 0", "areBisimilar 1",
            "separationRound 0", "separationRound 1", "equivalenceClasses 0", "equivalenceClasses 1",
            "wordDifferenceLength", "wordDifferenceLabel 0", "wordCount 0", "wordCount 1", "conditionCount"};
        String text = "write a;b+\n";
        for (String call : calls) {
            EventStructures x = Bases.make(Bases.RICH, text);
            due(call, Script.call(x, call) < 0 ? 0 : 1, 1);
            dueAlike(call, x, Bases.make(Bases.RICH, text));
        }
    }

    // Current configurations

    /** Two structures that are apart from each other, with the current configurations 5 and 2. */
    private static final String CURRENT = """
            addEvent 0 0 1
            addEvent 0 1 1
            addEvent 0 2 1
            addEvent 0 3 1
            addCause 0 0 1
            addConflict 0 2 3
            addEvent 1 0 1
            addEvent 1 1 1
            addPlace true
            addTransition 1 0 4
            occur 0 0
            occur 0 2
            occur 1 1
            """;

    private static void currentBecomesEmpty() {
        sentence("Current configurations: it becomes empty by every method that replaces or changes the structure, "
                + "even if the change has no effect");
        String rows = """
                addEvent 0 5 0 = 4
                removeEvent 0 3 = 3
                removeEvent 0 0 = 3
                addCause 0 0 2 = 1
                addCause 0 0 1 = 0
                addConflict 0 0 3 = 1
                addConflict 0 2 3 = 0
                addConflict 0 3 2 = 0
                setLabel 0 1 5 = 1
                setLabel 0 1 1 = 1
                clear 0 = 4
                copy 1 0 = 2
                copy 0 0 = 4
                refine 0 0 1 2 true = 5
                refine 0 5 1 2 true = 4
                refine 0 5 1 2 false = 4
                unfold 0 = 1
                parse 0 = 3""";
        for (String row : rows.split("\n")) {
            String[] sides = row.split(" = ");
            EventStructures x = Bases.make(CURRENT, "write a|b|c\n");
            due("current before " + sides[0], x.current(0), 5);
            due(sides[0], Script.call(x, sides[0]), Integer.parseInt(sides[1]));
            due("current after " + sides[0], x.current(0), 0);
            due("current of the other one after " + sides[0], x.current(1), 2);
        }
    }

    private static void currentOfTheSecond() {
        sentence("Current configurations: it becomes empty by every method that replaces or changes the structure");
        for (String call : new String[] {"addEvent 1 0 0", "removeEvent 1 0", "addCause 1 0 1", "addConflict 1 0 1",
            "setLabel 1 0 0", "clear 1", "copy 0 1", "copy 1 1", "refine 1 5 0 0 true", "unfold 1", "parse 1"}) {
            EventStructures x = Bases.make(CURRENT, "write 0\n");
            due(call, Script.call(x, call) < 0 ? 0 : 1, 1);
            due("current after " + call, x.current(1), 0);
            due("current of the other one after " + call, x.current(0), 5);
        }
    }

    private static void currentStays() {
        sentence("Current configurations: a method that changes no structure leaves it");
        for (String call : new String[] {"save", "append 97", "addPlace true", "addTransition 1 1 0", "clearNet",
            "conditionCount", "wordDifferenceLength", "areBisimilar 1", "wordCount 0", "enabled 0 0", "copy 0 1"}) {
            EventStructures x = Bases.make(CURRENT);
            due(call, Script.call(x, call) == OUT_OF_RANGE ? 0 : 1, 1);
            due("current after " + call, x.current(0), 5);
        }
        EventStructures x = Bases.make(CURRENT);
        due("occur in the other one", x.occur(1, 0), 3);
        due("withdraw in the other one", x.withdraw(1, 1), 1);
        due("current", x.current(0), 5);
    }

    // Promises 43 and 44

    private static void savedNumbers() {
        sentence("43: Returns the number of events of both structures together");
        EventStructures x = new EventStructures();
        due("none", x.save(), 0);
        for (int count = 1; count <= 16; count++) {
            x.addEvent(count > 8 ? 1 : 0, 0, 0);
            due("save", x.save(), count);
            due("restore", x.restore(), count);
        }
        due("eventCount(0)", x.eventCount(0), 8);
        due("eventCount(1)", x.eventCount(1), 8);
    }

    private static void savingChangesNothing() {
        sentence("43: Saves both structures, their current configurations and the net");
        String text = "write a;b+\n";
        EventStructures x = Bases.make(Bases.RICH, text, "save\n");
        EventStructures y = Bases.make(Bases.RICH, text, "save\nsave\n");
        dueAlike("a second save", y, x);
        x = Bases.make(Bases.RICH, text, "save\nrestore\n");
        y = Bases.make(Bases.RICH, text, "save\n");
        dueAlike("restore at once", x, y);
        x = Bases.make(Bases.RICH, text, "save\nrestore\nrestore\n");
        y = Bases.make(Bases.RICH, text, "save\n");
        dueAlike("restore twice", x, y);
    }

    private static void nothingSaved() {
        sentence("44: NONE if nothing was saved");
        EventStructures x = new EventStructures();
        due("a new object", x.restore(), NONE);
        x.addEvent(0, 0, 0);
        due("after a change", x.restore(), NONE);
        due("eventCount", x.eventCount(0), 1);
        due("save", x.save(), 1);
        due("after save", x.restore(), 1);
    }

    private static void emptyStateIsSaved() {
        sentence("44: as they were saved last, without events and places");
        EventStructures x = new EventStructures();
        due("save", x.save(), 0);
        Script.run(x, Bases.FULL);
        due("restore", x.restore(), 0);
        EventStructures y = new EventStructures();
        y.save();
        dueAlike("restore of the empty state", x, y);
    }

    private static void fullStateIsSaved() {
        sentence("44: Restores both structures, their current configurations and the net");
        for (String changes : new String[] {"clear 0\nclear 1\nclearNet\n", "restore\n", "copy 0 1\nremoveEvent 0 7\n",
            "copy 1 0\nunfold 1\naddEvent 0 0 0\n", "clearNet\naddPlace true\naddTransition 1 1 5\nclear 0\n",
            "withdraw 0 1\noccur 0 4\nsetLabel 1 0 4\naddCause 1 3 4\naddConflict 0 0 1\n"}) {
            EventStructures x = Bases.make(Bases.FULL, "save\n");
            Script.run(x, changes);
            due("restore", x.restore(), 16);
            dueAlike("restore after " + changes, x, Bases.make(Bases.FULL, "save\n"));
        }
    }

    /** Six transitions, each of which leads on, so that the unfolding shows their inputs, outputs and labels. */
    private static final String NET = """
            addPlace true
            addPlace false
            addPlace false
            addPlace true
            addPlace false
            addPlace true
            addTransition 1 6 5
            addTransition 2 16 4
            addTransition 8 0 3
            addTransition 4 0 2
            addTransition 16 0 1
            addTransition 32 0 0
            """;

    private static void netIsSaved() {
        sentence("44: Restores the net, all of its places and transitions");
        String other = """
                clearNet
                addPlace false
                addPlace true
                addPlace true
                addTransition 2 1 0
                addTransition 4 1 1
                addTransition 1 0 2
                addTransition 2 0 3
                addTransition 1 6 4
                addTransition 6 0 5
                """;
        EventStructures x = Bases.make(NET, "save\n", other, "restore\n");
        due("unfold", x.unfold(0), 6);
        due("conditionCount", x.conditionCount(), 6);
        int[] labels = {5, 4, 3, 2, 1, 0};
        int[] histories = {1, 3, 4, 9, 19, 32};
        for (int e = 0; e < 6; e++) {
            due("label", x.label(0, e), labels[e]);
            due("history", x.history(0, e), histories[e]);
        }
        dueAlike("restore of the net", Bases.make(NET, "save\n", other, "restore\n"), Bases.make(NET, "save\n"));
        dueAlike("restore of the other one", Bases.make(other, "save\nclearNet\n", NET, "clearNet\nrestore\n"),
                Bases.make(other, "save\n"));
    }

    private static void savedStateIsKept() {
        sentence("44: The saved state is kept");
        EventStructures x = Bases.make(Bases.RICH, "save\n");
        for (int again = 0; again < 3; again++) {
            due("restore", x.restore(), 8);
            due("current(0)", x.current(0), 5);
            due("current(1)", x.current(1), 7);
            due("withdraw", x.withdraw(0, 0), 4);
            due("label", x.setLabel(0, 0, 5), 0);
            due("clear", x.clear(1), 3);
            due("clearNet", x.clearNet(), 3);
            due("addPlace", x.addPlace(false), 0);
        }
    }

    private static void earlierStateIsReplaced() {
        sentence("43: An earlier saved state is replaced");
        EventStructures x = Bases.make(Bases.FULL, "save\n");
        Script.run(x, "clear 0\nclear 1\nclearNet\n");
        due("save", x.save(), 0);
        x.addEvent(0, 0, 0);
        due("restore", x.restore(), 0);
        due("eventCount", x.eventCount(0), 0);
        due("no place", x.addTransition(1, 0, 0), NO_SUCH_ELEMENT);
        due("addPlace", x.addPlace(true), 0);
        due("addTransition", x.addTransition(1, 0, 0), 0);
    }

    private static void currentIsRestored() {
        sentence("44: Restores their current configurations");
        EventStructures x = Make.chain(0, 8);
        Make.occur(x, 0, 0, 1, 2, 3, 4, 5, 6, 7);
        due("save", x.save(), 8);
        due("withdraw", x.withdraw(0, 7), 127);
        due("restore", x.restore(), 8);
        due("current", x.current(0), 255);
        due("current of the other one", x.current(1), 0);
        due("withdraw", x.withdraw(0, 7), 127);
        due("save", x.save(), 8);
        due("addCause, again", x.addCause(0, 0, 1), 0);
        due("current", x.current(0), 0);
        due("restore", x.restore(), 8);
        due("current", x.current(0), 127);
        due("occur", x.occur(0, 7), 255);
    }

    private static void textDoesNotChange() {
        sentence("44: and the text buffer does not change");
        EventStructures x = new EventStructures();
        Make.write(x, "a|b");
        due("save", x.save(), 0);
        due("append", x.append('|'), 4);
        due("restore", x.restore(), 0);
        due("append", x.append('c'), 5);
        due("parse", x.parse(0), 3);
        due("restore", x.restore(), 0);
        due("the text stays empty", x.parse(0), -100);
        Make.write(x, "0".repeat(40));
        due("restore", x.restore(), 0);
        due("the text stays full", x.append('0'), FULL);
    }

    // The life of an object

    private static void lastCallOfAll() {
        sentence("An object is used for at most 512 calls");
        EventStructures x = Make.parsed("a|b|c|d|e|f|a|b", "a|b|c|d|e|f|a|b");
        int made = 32;
        while (made + 6 <= MOST_CALLS) {
            due("setLabel", x.setLabel(0, 7, 0), 1);
            due("equivalenceClasses", x.equivalenceClasses(1), 176);
            due("wordDifferenceLength", x.wordDifferenceLength(), 2);
            due("setLabel", x.setLabel(0, 7, 1), 0);
            due("areBisimilar", x.areBisimilar(1), 1);
            due("wordDifferenceLength", x.wordDifferenceLength(), NONE);
            made += 6;
        }
        for (int left = MOST_CALLS - made; left > 0; left--) {
            due("one of the last calls", x.wordCount(1), 28395);
        }
        x = new EventStructures();
        for (int call = 1; call < MOST_CALLS; call++) {
            due("save", x.save(), 0);
        }
        due("the last call", x.addEvent(0, 5, LONGEST), 0);
    }

    public static void main(String[] args) {
        refusedChangesOfEvents();
        refusedOccurrences();
        refusedRefinement();
        refusedChangesOfTheNet();
        refusedWhenFull();
        refusedQuestions();
        noSuchStructure();
        refusedTexts();
        answeredQuestions();
        currentBecomesEmpty();
        currentOfTheSecond();
        currentStays();
        savedNumbers();
        savingChangesNothing();
        nothingSaved();
        emptyStateIsSaved();
        fullStateIsSaved();
        netIsSaved();
        savedStateIsKept();
        earlierStateIsReplaced();
        currentIsRestored();
        textDoesNotChange();
        lastCallOfAll();
        Checks.finish();
    }
}
