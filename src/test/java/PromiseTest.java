/** At least one test for each promise of the document, and its five examples. */
public final class PromiseTest implements Codes {
    /** Numbers that are no structure. */
    private static final int[] NO_STRUCTURES = {-1, 2, LOWEST, HIGHEST};

    private static void due(String call, long got, long want) {
        Checks.due(call, got, want);
    }

    private static void constants() {
        due("NO_SUCH_ELEMENT", EventStructures.NO_SUCH_ELEMENT, -1);
        due("OUT_OF_RANGE", EventStructures.OUT_OF_RANGE, -2);
        due("FULL", EventStructures.FULL, -3);
        due("CYCLE", EventStructures.CYCLE, -4);
        due("NOT_POSSIBLE", EventStructures.NOT_POSSIBLE, -5);
        due("TOO_LARGE", EventStructures.TOO_LARGE, -6);
        due("NONE", EventStructures.NONE, -7);
        due("OVERFLOW", EventStructures.OVERFLOW, -8);
    }

    private static void examples() {
        EventStructures x = new EventStructures();
        due("example 1: parse", Make.parse(x, 0, "a;(b+c)"), 3);
        due("example 1: configurationCount", x.configurationCount(0), 4);
        due("example 1: maximalConfiguration", x.maximalConfiguration(0, 1), 5);
        due("example 1: areInConflict", x.areInConflict(0, 1, 2), 1);

        x = new EventStructures();
        due("example 2: parse", Make.parse(x, 0, "a|b"), 2);
        due("example 2: stepCount", x.stepCount(0, 0), 3);
        due("example 2: runCount", x.runCount(0, 3), 2);
        due("example 2: stepRunCount", x.stepRunCount(0, 3), 3);

        x = new EventStructures();
        due("example 3: addEvent", x.addEvent(0, 0, 5), 0);
        due("example 3: addEvent", x.addEvent(1, 0, 5), 0);
        due("example 3: addEvent", x.addEvent(1, 0, 5), 1);
        due("example 3: areBisimilar", x.areBisimilar(0), 0);
        due("example 3: separationRound", x.separationRound(0), 2);
        due("example 3: wordDifferenceLength", x.wordDifferenceLength(), 2);

        x = new EventStructures();
        due("example 4: parse", Make.parse(x, 1, "a;(b"), -104);
        due("example 4: eventCount", x.eventCount(1), 0);
        due("example 4: restore", x.restore(), NONE);

        x = new EventStructures();
        due("example 5: addPlace", x.addPlace(true), 0);
        due("example 5: addTransition", x.addTransition(1, 1, 0), 0);
        due("example 5: unfold", x.unfold(0), TOO_LARGE);
        due("example 5: addEvent", x.addEvent(0, 0, LONGEST), 0);
        due("example 5: addEvent", x.addEvent(0, 0, LONGEST), 1);
        due("example 5: addEvent", x.addEvent(0, 0, LONGEST), 2);
        due("example 5: totalTime", x.totalTime(0, 7), OVERFLOW);
        due("example 5: totalTime", x.totalTime(0, 3), 2000000000);
    }

    private static void promise1NewObject() {
        EventStructures x = new EventStructures();
        for (int s = 0; s < 2; s++) {
            due("1: eventCount", x.eventCount(s), 0);
            due("1: current", x.current(s), 0);
            due("1: configurationCount", x.configurationCount(s), 1);
        }
        due("1: no place", x.addTransition(1, 0, 0), NO_SUCH_ELEMENT);
        due("1: no condition", x.conditionCount(), 0);
        due("1: nothing saved", x.restore(), NONE);
        due("1: no text", x.parse(0), -100);
        due("1: first character", x.append('a'), 1);
        EventStructures y = new EventStructures();
        x.addEvent(0, 1, 1);
        due("1: objects are apart", y.eventCount(0), 0);
        due("1: texts are apart", y.append('b'), 1);
    }

    private static void promise2AddEvent() {
        EventStructures x = new EventStructures();
        for (int s : NO_STRUCTURES) {
            due("2: no structure", x.addEvent(s, -1, -1), NO_SUCH_ELEMENT);
        }
        due("2: label too low", x.addEvent(0, -1, 0), OUT_OF_RANGE);
        due("2: label too high", x.addEvent(0, 6, 0), OUT_OF_RANGE);
        due("2: duration too low", x.addEvent(0, 0, -1), OUT_OF_RANGE);
        due("2: duration too high", x.addEvent(0, 0, LONGEST + 1), OUT_OF_RANGE);
        due("2: lowest", x.addEvent(0, 0, 0), 0);
        due("2: highest", x.addEvent(0, 5, LONGEST), 1);
        due("2: label", x.label(0, 1), 5);
        due("2: duration", x.totalTime(0, 2), LONGEST);
        due("2: no duration", x.totalTime(0, 1), 0);
        due("2: no causes, no conflicts", x.concurrentPairs(0), 1);
        for (int i = 2; i < 8; i++) {
            due("2: event", x.addEvent(0, 0, 1), i);
        }
        due("2: full", x.addEvent(0, 0, 1), FULL);
        due("2: out of range before full", x.addEvent(0, 6, 1), OUT_OF_RANGE);
        due("2: the other one has room", x.addEvent(1, 0, 1), 0);
        due("2: eventCount", x.eventCount(0), 8);

        x = Make.events(0, 0, 1);
        x.addCause(0, 0, 1);
        x.addConflict(0, 0, 1);
        x.clear(0);
        x.addEvent(0, 0, 1);
        x.addEvent(0, 1, 1);
        due("2: nothing left of earlier events", x.concurrentPairs(0), 1);
        x.addCause(0, 0, 1);
        x.removeEvent(0, 1);
        x.addEvent(0, 3, 1);
        due("2: nothing left of a removed event", x.history(0, 1), 2);
        x.occur(0, 0);
        due("2: failing keeps current", x.addEvent(0, 9, 1), OUT_OF_RANGE);
        due("2: current kept", x.current(0), 1);
        x.addEvent(0, 0, 1);
        due("2: current empty", x.current(0), 0);
    }

    private static void promise3RemoveEvent() {
        EventStructures x = Make.events(0, 0, 1, 2, 3, 4);
        for (int s : NO_STRUCTURES) {
            due("3: no structure", x.removeEvent(s, 0), NO_SUCH_ELEMENT);
        }
        for (int e : new int[] {-1, 5, 32, LOWEST, HIGHEST}) {
            due("3: no event", x.removeEvent(0, e), NO_SUCH_ELEMENT);
        }
        x.addCause(0, 0, 1);
        x.addCause(0, 1, 2);
        x.addCause(0, 3, 4);
        x.addConflict(0, 0, 4);
        x.addConflict(0, 2, 3);
        x.addConflict(0, 1, 3);
        due("3: remove", x.removeEvent(0, 1), 4);
        due("3: labels move", x.label(0, 1), 2);
        due("3: last label", x.label(0, 3), 4);
        due("3: chain is cut", x.isBelow(0, 0, 1), 0);
        due("3: later pair moves", x.isBelow(0, 2, 3), 1);
        due("3: conflict moves", x.areInConflict(0, 1, 2), 1);
        due("3: conflict of first and last", x.areInConflict(0, 0, 3), 1);
        due("3: no other conflict", x.areInConflict(0, 0, 2), 0);
        due("3: no event 4", x.label(0, 4), NO_SUCH_ELEMENT);
        due("3: nothing comes to be its own cause", x.history(0, 1), 2);
        due("3: nothing comes to be in conflict with itself", x.areInConflict(0, 2, 2), 0);
        due("3: no cause moves down", x.history(0, 2), 4);
        due("3: the cause of the last", x.history(0, 3), 12);
        due("3: configurations", x.configurationCount(0), 7);
        due("3: occur", x.occur(0, 0), 1);
        due("3: failing keeps current", x.removeEvent(0, 4), NO_SUCH_ELEMENT);
        due("3: current kept", x.current(0), 1);
        due("3: remove last", x.removeEvent(0, 3), 3);
        due("3: current empty", x.current(0), 0);
        due("3: remove first", x.removeEvent(0, 0), 2);
        due("3: conflict stays", x.areInConflict(0, 0, 1), 1);
        due("3: remove", x.removeEvent(0, 0), 1);
        due("3: remove", x.removeEvent(0, 0), 0);
        due("3: none left", x.removeEvent(0, 0), NO_SUCH_ELEMENT);

        x = new EventStructures();
        for (int i = 0; i < 8; i++) {
            x.addEvent(1, i % 6, i);
        }
        x.addConflict(1, 0, 7);
        due("3: remove of eight", x.removeEvent(1, 7), 7);
        due("3: no conflict left", x.configurationCount(1), 128);
        due("3: durations stay", x.totalTime(1, 127), 21);
        due("3: remove", x.removeEvent(1, 0), 6);
        due("3: durations move", x.totalTime(1, 1), 1);
    }

    /** Each event is removed once, from events with all cause pairs along the numbers, or all conflict pairs. */
    private static void removeEach() {
        for (int removed = 0; removed < 5; removed++) {
            EventStructures x = Make.events(0, 0, 1, 2, 3, 4);
            EventStructures y = Make.events(1, 0, 1, 2, 3, 4);
            for (int e = 0; e < 5; e++) {
                for (int f = 0; f < e; f++) {
                    x.addCause(0, f, e);
                    y.addConflict(1, f, e);
                }
            }
            due("3: of a chain", x.removeEvent(0, removed), 4);
            due("3: of a choice", y.removeEvent(1, removed), 4);
            for (int e = 0; e < 4; e++) {
                due("3: chain", x.history(0, e), (2 << e) - 1);
                due("3: label", x.label(0, e), e < removed ? e : e + 1);
                for (int f = 0; f < 4; f++) {
                    due("3: choice", y.areInConflict(1, e, f), e == f ? 0 : 1);
                }
            }
        }
    }

    private static void promise4AddCause() {
        EventStructures x = Make.events(0, 0, 1, 2);
        for (int s : NO_STRUCTURES) {
            due("4: no structure", x.addCause(s, 0, 1), NO_SUCH_ELEMENT);
        }
        for (int e : new int[] {-1, 3, LOWEST, HIGHEST}) {
            due("4: no cause", x.addCause(0, e, 0), NO_SUCH_ELEMENT);
            due("4: no effect", x.addCause(0, 0, e), NO_SUCH_ELEMENT);
            due("4: neither", x.addCause(0, e, e), NO_SUCH_ELEMENT);
        }
        due("4: other structure is empty", x.addCause(1, 0, 1), NO_SUCH_ELEMENT);
        due("4: same", x.addCause(0, 1, 1), CYCLE);
        due("4: new", x.addCause(0, 2, 1), 1);
        due("4: again", x.addCause(0, 2, 1), 0);
        due("4: new", x.addCause(0, 1, 0), 1);
        due("4: cycle of two", x.addCause(0, 1, 2), CYCLE);
        due("4: cycle of three", x.addCause(0, 0, 2), CYCLE);
        due("4: not a pair yet", x.addCause(0, 2, 0), 1);
        due("4: again", x.addCause(0, 2, 0), 0);
        due("4: occur", x.occur(0, 2), 4);
        due("4: cycle", x.addCause(0, 0, 2), CYCLE);
        due("4: current kept", x.current(0), 4);
        due("4: no effect", x.addCause(0, 2, 0), 0);
        due("4: current empty", x.current(0), 0);
    }

    private static void promise5AddConflict() {
        EventStructures x = Make.events(1, 0, 1, 2);
        for (int s : NO_STRUCTURES) {
            due("5: no structure", x.addConflict(s, 0, 0), NO_SUCH_ELEMENT);
        }
        for (int e : new int[] {-1, 3, LOWEST, HIGHEST}) {
            due("5: no first", x.addConflict(1, e, 0), NO_SUCH_ELEMENT);
            due("5: no second", x.addConflict(1, 0, e), NO_SUCH_ELEMENT);
            due("5: no event before same", x.addConflict(1, e, e), NO_SUCH_ELEMENT);
        }
        due("5: same", x.addConflict(1, 2, 2), OUT_OF_RANGE);
        due("5: new", x.addConflict(1, 0, 2), 1);
        due("5: again", x.addConflict(1, 0, 2), 0);
        due("5: again in the other order", x.addConflict(1, 2, 0), 0);
        due("5: inherit", x.addCause(1, 0, 1), 1);
        due("5: inherited", x.areInConflict(1, 1, 2), 1);
        due("5: inherited but no pair", x.addConflict(1, 2, 1), 1);
        due("5: occur", x.occur(1, 2), 4);
        due("5: same", x.addConflict(1, 2, 2), OUT_OF_RANGE);
        due("5: current kept", x.current(1), 4);
        due("5: again", x.addConflict(1, 1, 2), 0);
        due("5: current empty", x.current(1), 0);
    }

    private static void promise6SetLabel() {
        EventStructures x = Make.events(0, 4, 1);
        for (int s : NO_STRUCTURES) {
            due("6: no structure", x.setLabel(s, 0, 9), NO_SUCH_ELEMENT);
        }
        for (int e : new int[] {-1, 2, LOWEST, HIGHEST}) {
            due("6: no event", x.setLabel(0, e, 9), NO_SUCH_ELEMENT);
        }
        for (int label : new int[] {-1, 6, LOWEST, HIGHEST}) {
            due("6: no label", x.setLabel(0, 0, label), OUT_OF_RANGE);
        }
        due("6: previous", x.setLabel(0, 0, 5), 4);
        due("6: previous", x.setLabel(0, 0, 0), 5);
        due("6: new", x.label(0, 0), 0);
        due("6: other event", x.label(0, 1), 1);
        x.occur(0, 1);
        due("6: no label", x.setLabel(0, 0, 6), OUT_OF_RANGE);
        due("6: current kept", x.current(0), 2);
        due("6: same label", x.setLabel(0, 0, 0), 0);
        due("6: current empty", x.current(0), 0);
    }

    private static void promise7Clear() {
        EventStructures x = Make.events(0, 0, 1);
        x.addEvent(1, 0, 1);
        for (int s : NO_STRUCTURES) {
            due("7: no structure", x.clear(s), NO_SUCH_ELEMENT);
        }
        x.occur(0, 0);
        x.occur(1, 0);
        due("7: removed", x.clear(0), 2);
        due("7: current empty", x.current(0), 0);
        due("7: none left", x.eventCount(0), 0);
        due("7: no event", x.label(0, 0), NO_SUCH_ELEMENT);
        due("7: nothing to remove", x.clear(0), 0);
        due("7: other structure", x.eventCount(1), 1);
        due("7: other current", x.current(1), 1);
    }

    private static void promise8Copy() {
        EventStructures x = new EventStructures();
        x.addEvent(0, 3, 7);
        x.addEvent(0, 2, 9);
        x.addEvent(0, 1, 11);
        x.addCause(0, 0, 1);
        x.addConflict(0, 1, 2);
        x.addEvent(1, 0, 1);
        for (int s : NO_STRUCTURES) {
            due("8: no source", x.copy(s, 0), NO_SUCH_ELEMENT);
            due("8: no target", x.copy(0, s), NO_SUCH_ELEMENT);
        }
        x.occur(0, 0);
        x.occur(1, 0);
        due("8: copy", x.copy(0, 1), 3);
        due("8: current of the source", x.current(0), 1);
        due("8: current of the copy", x.current(1), 0);
        due("8: label", x.label(1, 0), 3);
        due("8: causes", x.history(1, 1), 3);
        due("8: conflicts", x.areInConflict(1, 1, 2), 1);
        due("8: durations", x.shortestTime(1, 3), 16);
        x.removeEvent(0, 0);
        due("8: apart", x.eventCount(1), 3);
        due("8: apart", x.history(1, 1), 3);
        x.occur(1, 0);
        due("8: onto itself", x.copy(1, 1), 3);
        due("8: current empty", x.current(1), 0);
        due("8: unchanged", x.history(1, 1), 3);
        due("8: other way", x.copy(1, 0), 3);
        due("8: same again", x.areBisimilar(1), 1);
    }

    private static void promise9EventCount() {
        EventStructures x = Make.events(1, 0, 0, 0);
        for (int s : NO_STRUCTURES) {
            due("9: no structure", x.eventCount(s), NO_SUCH_ELEMENT);
        }
        due("9: none", x.eventCount(0), 0);
        due("9: three", x.eventCount(1), 3);
        for (int i = 3; i < 10; i++) {
            x.addEvent(1, 0, 0);
        }
        due("9: eight", x.eventCount(1), 8);
    }

    private static void promise10Label() {
        EventStructures x = Make.events(1, 0, 1, 2, 3, 4, 5);
        for (int s : NO_STRUCTURES) {
            due("10: no structure", x.label(s, 0), NO_SUCH_ELEMENT);
        }
        for (int e : new int[] {-1, 6, 8, LOWEST, HIGHEST}) {
            due("10: no event", x.label(1, e), NO_SUCH_ELEMENT);
        }
        due("10: no event there", x.label(0, 0), NO_SUCH_ELEMENT);
        for (int e = 0; e < 6; e++) {
            due("10: label", x.label(1, e), e);
        }
    }

    private static void promise11IsBelow() {
        EventStructures x = Make.events(0, 0, 0, 0, 0);
        x.addCause(0, 3, 1);
        x.addCause(0, 1, 2);
        for (int s : NO_STRUCTURES) {
            due("11: no structure", x.isBelow(s, 0, 0), NO_SUCH_ELEMENT);
        }
        for (int e : new int[] {-1, 4, LOWEST, HIGHEST}) {
            due("11: no first", x.isBelow(0, e, 0), NO_SUCH_ELEMENT);
            due("11: no second", x.isBelow(0, 0, e), NO_SUCH_ELEMENT);
        }
        due("11: direct", x.isBelow(0, 3, 1), 1);
        due("11: by a chain", x.isBelow(0, 3, 2), 1);
        due("11: the other way", x.isBelow(0, 2, 3), 0);
        due("11: not itself", x.isBelow(0, 1, 1), 0);
        due("11: not at all", x.isBelow(0, 0, 2), 0);
    }

    private static void promise12AreInConflict() {
        EventStructures x = Make.events(0, 0, 0, 0, 0, 0);
        x.addCause(0, 0, 2);
        x.addCause(0, 1, 3);
        x.addConflict(0, 0, 1);
        for (int s : NO_STRUCTURES) {
            due("12: no structure", x.areInConflict(s, 0, 0), NO_SUCH_ELEMENT);
        }
        for (int e : new int[] {-1, 5, LOWEST, HIGHEST}) {
            due("12: no first", x.areInConflict(0, e, 0), NO_SUCH_ELEMENT);
            due("12: no second", x.areInConflict(0, 0, e), NO_SUCH_ELEMENT);
        }
        due("12: direct", x.areInConflict(0, 0, 1), 1);
        due("12: other order", x.areInConflict(0, 1, 0), 1);
        due("12: inherited", x.areInConflict(0, 2, 1), 1);
        due("12: inherited on both sides", x.areInConflict(0, 2, 3), 1);
        due("12: none", x.areInConflict(0, 2, 4), 0);
        due("12: not with itself", x.areInConflict(0, 2, 2), 0);
        x.addCause(0, 2, 4);
        x.addCause(0, 3, 4);
        due("12: impossible", x.areInConflict(0, 4, 4), 1);
        due("12: with its past", x.areInConflict(0, 4, 0), 1);
        x = Make.events(1, 0, 0);
        x.addCause(1, 0, 1);
        x.addConflict(1, 0, 1);
        due("12: cause and conflict", x.areInConflict(1, 1, 1), 1);
        due("12: cause and conflict", x.areInConflict(1, 0, 1), 1);
        due("12: the cause is possible", x.areInConflict(1, 0, 0), 0);
    }

    private static void promise13History() {
        EventStructures x = Make.events(0, 0, 0, 0, 0);
        x.addCause(0, 3, 1);
        x.addCause(0, 1, 0);
        for (int s : NO_STRUCTURES) {
            due("13: no structure", x.history(s, 0), NO_SUCH_ELEMENT);
        }
        for (int e : new int[] {-1, 4, LOWEST, HIGHEST}) {
            due("13: no event", x.history(0, e), NO_SUCH_ELEMENT);
        }
        due("13: history", x.history(0, 0), 11);
        due("13: history", x.history(0, 1), 10);
        due("13: alone", x.history(0, 2), 4);
        due("13: first of the chain", x.history(0, 3), 8);
        x = Make.events(0, 0, 0, 0, 0, 0, 0, 0, 0);
        for (int e = 7; e > 0; e--) {
            x.addCause(0, e, e - 1);
        }
        due("13: longest chain", x.history(0, 0), 255);
    }

    private static void promise14ConcurrentPairs() {
        EventStructures x = Make.events(0, 0, 0, 0, 0);
        for (int s : NO_STRUCTURES) {
            due("14: no structure", x.concurrentPairs(s), NO_SUCH_ELEMENT);
        }
        due("14: no events", x.concurrentPairs(1), 0);
        due("14: all", x.concurrentPairs(0), 6);
        x.addCause(0, 2, 0);
        due("14: ordered", x.concurrentPairs(0), 5);
        x.addConflict(0, 1, 2);
        due("14: conflict, inherited too", x.concurrentPairs(0), 3);
        x = Make.events(0, 0, 0, 0);
        x.addCause(0, 0, 1);
        x.addConflict(0, 0, 1);
        due("14: impossible events can be concurrent", x.concurrentPairs(0), 2);
    }

    private static void promise15IsConfiguration() {
        EventStructures x = Make.events(0, 0, 0, 0);
        x.addCause(0, 0, 1);
        x.addConflict(0, 1, 2);
        for (int s : NO_STRUCTURES) {
            due("15: no structure", x.isConfiguration(s, 0), NO_SUCH_ELEMENT);
        }
        int[] want = {1, 1, 0, 1, 1, 1, 0, 0};
        for (int set = 0; set < 8; set++) {
            due("15: set " + set, x.isConfiguration(0, set), want[set]);
        }
        for (int set : new int[] {8, 9, 256, 257, -1, -8, LOWEST, HIGHEST, 1 << 16}) {
            due("15: no such event in " + set, x.isConfiguration(0, set), 0);
        }
        due("15: empty structure", x.isConfiguration(1, 0), 1);
        due("15: empty structure", x.isConfiguration(1, 1), 0);
        x.addCause(0, 2, 1);
        due("15: impossible event", x.isConfiguration(0, 7), 0);
    }

    private static void promise16ConfigurationCount() {
        EventStructures x = Make.events(0, 0, 0, 0, 0, 0, 0, 0, 0);
        for (int s : NO_STRUCTURES) {
            due("16: no structure", x.configurationCount(s), NO_SUCH_ELEMENT);
        }
        due("16: most", x.configurationCount(0), 256);
        due("16: least", x.configurationCount(1), 1);
        for (int e = 1; e < 8; e++) {
            x.addCause(0, e - 1, e);
        }
        due("16: chain", x.configurationCount(0), 9);
        x.addConflict(0, 0, 7);
        due("16: impossible last event", x.configurationCount(0), 8);
    }

    private static void promise17MaximalCount() {
        EventStructures x = Make.parsed("(a+b)|(c+d)", "a|b;c");
        for (int s : NO_STRUCTURES) {
            due("17: no structure", x.maximalCount(s), NO_SUCH_ELEMENT);
        }
        due("17: two choices", x.maximalCount(0), 4);
        due("17: no choice", x.maximalCount(1), 1);
        x.clear(0);
        due("17: the empty one", x.maximalCount(0), 1);
        x.addEvent(0, 0, 0);
        x.addEvent(0, 0, 0);
        x.addCause(0, 0, 1);
        x.addConflict(0, 0, 1);
        due("17: impossible event", x.maximalCount(0), 1);
    }

    private static void promise18MaximalConfiguration() {
        EventStructures x = Make.parsed("(a+b)|(c+d)", "0");
        for (int s : NO_STRUCTURES) {
            due("18: no structure", x.maximalConfiguration(s, 9), NO_SUCH_ELEMENT);
        }
        int[] want = {5, 6, 9, 10};
        for (int i = 0; i < 4; i++) {
            due("18: index " + i, x.maximalConfiguration(0, i), want[i]);
        }
        for (int i : new int[] {-1, 4, LOWEST, HIGHEST}) {
            due("18: no index", x.maximalConfiguration(0, i), NONE);
        }
        due("18: the empty one", x.maximalConfiguration(1, 0), 0);
        due("18: no other one", x.maximalConfiguration(1, 1), NONE);
    }

    private static void promise19Enabled() {
        EventStructures x = Make.parsed("a;(b+c)|d", "0");
        for (int s : NO_STRUCTURES) {
            due("19: no structure", x.enabled(s, -1), NO_SUCH_ELEMENT);
        }
        due("19: at the beginning", x.enabled(0, 0), 9);
        due("19: after the cause", x.enabled(0, 1), 14);
        due("19: after a choice", x.enabled(0, 3), 8);
        due("19: maximal", x.enabled(0, 11), 0);
        due("19: no event", x.enabled(1, 0), 0);
        for (int set : new int[] {2, 7, 16, -1, 256, LOWEST, HIGHEST}) {
            due("19: not possible", x.enabled(0, set), NOT_POSSIBLE);
        }
        x.clear(0);
        x.addEvent(0, 0, 0);
        x.addEvent(0, 0, 0);
        x.addCause(0, 0, 1);
        x.addConflict(0, 0, 1);
        due("19: impossible event", x.enabled(0, 1), 0);
    }

    private static void promise20StepCount() {
        EventStructures x = Make.parsed("a|(b+c)|d;e", "a|b|c|d|e|f|a|b");
        for (int s : NO_STRUCTURES) {
            due("20: no structure", x.stepCount(s, -1), NO_SUCH_ELEMENT);
        }
        due("20: with a conflict", x.stepCount(0, 0), 11);
        due("20: later", x.stepCount(0, 2), 3);
        due("20: after d", x.stepCount(0, 11), 1);
        due("20: maximal", x.stepCount(0, 27), 0);
        due("20: most", x.stepCount(1, 0), 255);
        due("20: one missing", x.stepCount(1, 127), 1);
        for (int set : new int[] {6, 16, 32, -1, LOWEST, HIGHEST}) {
            due("20: not possible", x.stepCount(0, set), NOT_POSSIBLE);
        }
    }

    private static void promise21LargestStep() {
        EventStructures x = Make.parsed("a|(b+c)|d;e", "(a|b)+c");
        for (int s : NO_STRUCTURES) {
            due("21: no structure", x.largestStep(s, -1), NO_SUCH_ELEMENT);
        }
        due("21: the highest of those with three", x.largestStep(0, 0), 13);
        due("21: size goes before number", x.largestStep(1, 0), 3);
        due("21: at a configuration", x.largestStep(0, 8), 21);
        due("21: maximal", x.largestStep(0, 27), 0);
        due("21: the lowest event alone", x.largestStep(0, 26), 1);
        for (int set : new int[] {6, 16, 32, -1, LOWEST, HIGHEST}) {
            due("21: not possible", x.largestStep(0, set), NOT_POSSIBLE);
        }
    }

    private static void promise22RunCount() {
        EventStructures x = Make.parsed("a;b|c;d", "a|b|c|d|e|f|a|b");
        for (int s : NO_STRUCTURES) {
            due("22: no structure", x.runCount(s, -1), NO_SUCH_ELEMENT);
        }
        due("22: empty", x.runCount(0, 0), 1);
        due("22: one event", x.runCount(0, 1), 1);
        due("22: two chains", x.runCount(0, 15), 6);
        due("22: three events", x.runCount(0, 7), 3);
        due("22: most", x.runCount(1, 255), 40320);
        due("22: five of eight", x.runCount(1, 0xD5), 120);
        for (int set : new int[] {2, 16, -1, LOWEST, HIGHEST}) {
            due("22: not possible", x.runCount(0, set), NOT_POSSIBLE);
        }
    }

    private static void promise23StepRunCount() {
        EventStructures x = Make.parsed("a;b|c;d", "a|b|c|d|e|f|a|b");
        for (int s : NO_STRUCTURES) {
            due("23: no structure", x.stepRunCount(s, -1), NO_SUCH_ELEMENT);
        }
        due("23: empty", x.stepRunCount(0, 0), 1);
        due("23: one event", x.stepRunCount(0, 4), 1);
        due("23: a chain", x.stepRunCount(0, 3), 1);
        due("23: two chains", x.stepRunCount(0, 15), 13);
        due("23: most", x.stepRunCount(1, 255), 545835);
        due("23: three of eight", x.stepRunCount(1, 0x92), 13);
        for (int set : new int[] {2, 16, -1, LOWEST, HIGHEST}) {
            due("23: not possible", x.stepRunCount(0, set), NOT_POSSIBLE);
        }
    }

    private static void promise24ShortestTime() {
        EventStructures x = new EventStructures();
        int[] durations = {5, 100, 7, 30};
        for (int e = 0; e < 4; e++) {
            x.addEvent(0, 0, durations[e]);
        }
        x.addCause(0, 3, 2);
        x.addCause(0, 2, 0);
        x.addCause(0, 3, 0);
        for (int s : NO_STRUCTURES) {
            due("24: no structure", x.shortestTime(s, -1), NO_SUCH_ELEMENT);
        }
        due("24: empty", x.shortestTime(0, 0), 0);
        due("24: one event", x.shortestTime(0, 8), 30);
        due("24: chain against the numbers", x.shortestTime(0, 13), 42);
        due("24: maximum of both sides", x.shortestTime(0, 15), 100);
        for (int set : new int[] {1, 5, 16, -1, LOWEST, HIGHEST}) {
            due("24: not possible", x.shortestTime(0, set), NOT_POSSIBLE);
        }
        x = new EventStructures();
        x.addEvent(1, 0, LONGEST);
        x.addEvent(1, 0, LONGEST);
        x.addEvent(1, 0, 147483647);
        x.addEvent(1, 0, 1);
        x.addCause(1, 0, 1);
        x.addCause(1, 1, 2);
        x.addCause(1, 2, 3);
        due("24: largest", x.shortestTime(1, 7), HIGHEST);
        due("24: overflow", x.shortestTime(1, 15), OVERFLOW);
        due("24: not possible before overflow", x.shortestTime(1, 14), NOT_POSSIBLE);
        x.clear(1);
        for (int e = 0; e < 8; e++) {
            x.addEvent(1, 0, LONGEST);
        }
        due("24: side by side", x.shortestTime(1, 255), LONGEST);
        for (int e = 1; e < 8; e++) {
            x.addCause(1, e - 1, e);
        }
        due("24: eight in a chain", x.shortestTime(1, 255), OVERFLOW);
        x.clear(1);
        x.addEvent(1, 0, 3);
        x.addEvent(1, 0, 4);
        x.addCause(1, 1, 0);
        due("24: nothing left of earlier events", x.shortestTime(1, 3), 7);
    }

    private static void promise25TotalTime() {
        EventStructures x = new EventStructures();
        x.addEvent(1, 0, LONGEST);
        x.addEvent(1, 0, LONGEST);
        x.addEvent(1, 0, 147483647);
        x.addEvent(1, 0, 1);
        x.addEvent(1, 0, 5);
        x.addConflict(1, 3, 4);
        for (int s : NO_STRUCTURES) {
            due("25: no structure", x.totalTime(s, -1), NO_SUCH_ELEMENT);
        }
        due("25: empty", x.totalTime(1, 0), 0);
        due("25: some", x.totalTime(1, 12), 147483648);
        due("25: largest", x.totalTime(1, 7), HIGHEST);
        due("25: overflow", x.totalTime(1, 15), OVERFLOW);
        for (int set : new int[] {24, 31, 32, -1, LOWEST, HIGHEST}) {
            due("25: not possible", x.totalTime(1, set), NOT_POSSIBLE);
        }
        x.clear(0);
        for (int e = 0; e < 8; e++) {
            x.addEvent(0, 0, LONGEST);
        }
        due("25: all eight", x.totalTime(0, 255), OVERFLOW);
        due("25: five", x.totalTime(0, 31), OVERFLOW);
    }

    private static void promise26Occur() {
        EventStructures x = Make.parsed("a;(b+c)|d", "a");
        for (int s : NO_STRUCTURES) {
            due("26: no structure", x.occur(s, 0), NO_SUCH_ELEMENT);
        }
        for (int e : new int[] {-1, 4, 32, LOWEST, HIGHEST}) {
            due("26: no event", x.occur(0, e), NO_SUCH_ELEMENT);
        }
        due("26: cause is missing", x.occur(0, 1), NOT_POSSIBLE);
        due("26: occur", x.occur(0, 3), 8);
        due("26: again", x.occur(0, 3), NOT_POSSIBLE);
        due("26: occur", x.occur(0, 0), 9);
        due("26: occur", x.occur(0, 2), 13);
        due("26: conflict", x.occur(0, 1), NOT_POSSIBLE);
        due("26: kept", x.current(0), 13);
        due("26: other structure", x.current(1), 0);
    }

    private static void promise27Withdraw() {
        EventStructures x = Make.parsed("a;b;c|d", "a");
        for (int s : NO_STRUCTURES) {
            due("27: no structure", x.withdraw(s, 0), NO_SUCH_ELEMENT);
        }
        for (int e : new int[] {-1, 4, 32, LOWEST, HIGHEST}) {
            due("27: no event", x.withdraw(0, e), NO_SUCH_ELEMENT);
        }
        due("27: not in it", x.withdraw(0, 0), NOT_POSSIBLE);
        x.occur(0, 0);
        x.occur(0, 1);
        x.occur(0, 3);
        due("27: below another one", x.withdraw(0, 0), NOT_POSSIBLE);
        due("27: not in it", x.withdraw(0, 2), NOT_POSSIBLE);
        due("27: kept", x.current(0), 11);
        due("27: withdraw", x.withdraw(0, 1), 9);
        due("27: now it can go", x.withdraw(0, 0), 8);
        due("27: last", x.withdraw(0, 3), 0);
        due("27: not in it any more", x.withdraw(0, 3), NOT_POSSIBLE);
        due("27: occur again", x.occur(0, 0), 1);
    }

    private static void promise28Current() {
        EventStructures x = Make.parsed("a|b", "c|d");
        for (int s : NO_STRUCTURES) {
            due("28: no structure", x.current(s), NO_SUCH_ELEMENT);
        }
        due("28: empty at first", x.current(0), 0);
        x.occur(0, 1);
        x.occur(1, 0);
        due("28: first", x.current(0), 2);
        due("28: second", x.current(1), 1);
        x.copy(0, 1);
        due("28: not copied", x.current(1), 0);
        due("28: source keeps it", x.current(0), 2);
    }

    private static void promise29AreBisimilar() {
        EventStructures x = Make.parsed("a|b", "a;b+b;a");
        for (int kind : new int[] {-1, 2, LOWEST, HIGHEST}) {
            due("29: no kind", x.areBisimilar(kind), OUT_OF_RANGE);
        }
        due("29: interleaving", x.areBisimilar(0), 1);
        due("29: steps", x.areBisimilar(1), 0);
        x = Make.parsed("a;(b+c)", "a;b+a;c");
        due("29: choice", x.areBisimilar(0), 0);
        due("29: choice", x.areBisimilar(1), 0);
        x = Make.parsed("a;(b+b)", "a;b+a;b");
        due("29: same choice", x.areBisimilar(0), 1);
        due("29: same choice", x.areBisimilar(1), 1);
        x = Make.parsed("0", "0;0");
        due("29: nothing", x.areBisimilar(0), 1);
        due("29: after a change of the second", x.areBisimilar(1), 1);
        x.addEvent(1, 0, 1);
        due("29: changed", x.areBisimilar(0), 0);
        due("29: changed", x.areBisimilar(1), 0);
        x.addEvent(0, 0, 2);
        due("29: durations do not count", x.areBisimilar(1), 1);
        x.setLabel(0, 0, 1);
        due("29: labels do", x.areBisimilar(1), 0);
        x = Make.parsed("a", "a;b");
        due("29: the second can do more", x.areBisimilar(0), 0);
        x = Make.parsed("a;b", "a");
        due("29: the first can do more", x.areBisimilar(0), 0);
        x = Make.parsed("a|a", "a;a");
        due("29: labels alone", x.areBisimilar(0), 1);
        due("29: how many of a label", x.areBisimilar(1), 0);
    }

    private static void promise30SeparationRound() {
        EventStructures x = Make.parsed("a|b", "a;b+b;a");
        for (int kind : new int[] {-1, 2, LOWEST, HIGHEST}) {
            due("30: no kind", x.separationRound(kind), OUT_OF_RANGE);
        }
        due("30: bisimilar", x.separationRound(0), NONE);
        due("30: steps", x.separationRound(1), 1);
        x = Make.parsed("a;b;c;d;e;f;a;b", "a;b;c;d;e;f;a;c");
        due("30: late", x.separationRound(0), 8);
        due("30: late by steps", x.separationRound(1), 8);
        x.removeEvent(1, 7);
        due("30: ends earlier", x.separationRound(0), 8);
        x.clear(0);
        due("30: at once", x.separationRound(0), 1);
        x = Make.parsed("a;(b+c)", "a;b+a;c");
        due("30: choice", x.separationRound(0), 2);
        x = Make.parsed("a;b;c+a;b;d", "a;(b;c+b;d)");
        due("30: the second move tells", x.separationRound(0), 3);
        x = Make.parsed("a;(b;c+b;d)", "a;b;(c+d)");
        due("30: later choice", x.separationRound(0), 3);
        x = Make.parsed("0", "0");
        due("30: nothing", x.separationRound(1), NONE);
        x = Make.parsed("c;(a|b)", "c;(a;b+b;a)");
        due("30: step one later", x.separationRound(1), 2);
        due("30: no step", x.separationRound(0), NONE);
    }

    private static void promise31EquivalenceClasses() {
        EventStructures x = Make.parsed("a|b", "a;b+b;a");
        for (int kind : new int[] {-1, 2, LOWEST, HIGHEST}) {
            due("31: no kind", x.equivalenceClasses(kind), OUT_OF_RANGE);
        }
        due("31: single events", x.equivalenceClasses(0), 4);
        due("31: steps", x.equivalenceClasses(1), 5);
        x = Make.parsed("0", "0");
        due("31: one", x.equivalenceClasses(0), 1);
        due("31: one", x.equivalenceClasses(1), 1);
        x = Make.parsed("a;b;c;d;e;f;a;b", "0");
        due("31: chain", x.equivalenceClasses(0), 9);
        x = Make.parsed("a|b|c|d|e|f|a|b", "a|b|c|d|e|f|a|b");
        due("31: all labels", x.equivalenceClasses(0), 144);
        due("31: all labels", x.equivalenceClasses(1), 144);
        x.setLabel(1, 0, 5);
        due("31: two multisets", x.equivalenceClasses(0), 192);
        due("31: two multisets", x.equivalenceClasses(1), 192);
        x = Make.parsed("a|a|a|a|a|a|a|a", "a;a;a;a;a;a;a;a");
        due("31: how many are left", x.equivalenceClasses(0), 9);
        due("31: how many at once", x.equivalenceClasses(1), 16);
    }

    private static void promise32WordDifferenceLength() {
        EventStructures x = Make.parsed("a;(b+c)", "a;b+a;c");
        due("32: same words", x.wordDifferenceLength(), NONE);
        x = Make.parsed("a;b;c", "a;b");
        due("32: longer on the first", x.wordDifferenceLength(), 3);
        x.copy(0, 1);
        due("32: same again", x.wordDifferenceLength(), NONE);
        x.removeEvent(0, 2);
        due("32: longer on the second", x.wordDifferenceLength(), 3);
        x = Make.parsed("a;b;c+d", "a;b+e");
        due("32: length goes first", x.wordDifferenceLength(), 1);
        x = Make.parsed("a|b|c|d|e|f|a|b", "a|b|c|d|e|f|a|b");
        due("32: all the same", x.wordDifferenceLength(), NONE);
        x.addCause(1, 0, 6);
        x.addCause(1, 1, 7);
        due("32: the order of equal labels", x.wordDifferenceLength(), NONE);
        x.setLabel(1, 7, 0);
        due("32: only the second repeats three times", x.wordDifferenceLength(), 2);
        x = Make.parsed("a;b;c;d;e;f;a;b", "a;b;c;d;e;f;a;c");
        due("32: longest", x.wordDifferenceLength(), 8);
        due("32: new object", new EventStructures().wordDifferenceLength(), NONE);
    }

    private static void promise33WordDifferenceLabel() {
        EventStructures x = Make.parsed("a;b;f", "a;b;d+a;b;e");
        due("33: label", x.wordDifferenceLabel(0), 0);
        due("33: label", x.wordDifferenceLabel(1), 1);
        due("33: first by the order of labels", x.wordDifferenceLabel(2), 3);
        for (int i : new int[] {-1, 3, 8, LOWEST, HIGHEST}) {
            due("33: no position", x.wordDifferenceLabel(i), NONE);
        }
        x = Make.parsed("a;b;c+d", "a;b");
        due("33: the shorter one", x.wordDifferenceLabel(0), 3);
        due("33: the shorter one", x.wordDifferenceLabel(1), NONE);
        x = Make.parsed("b;a+c;d", "b+c");
        due("33: the earlier one", x.wordDifferenceLabel(0), 1);
        due("33: the earlier one", x.wordDifferenceLabel(1), 0);
        x = Make.parsed("a", "a");
        due("33: no word", x.wordDifferenceLabel(0), NONE);
        due("33: no word", x.wordDifferenceLabel(-1), NONE);
        x = Make.parsed("a;b;c;d;e;f;a;b", "a;b;c;d;e;f;a;c");
        due("33: last label", x.wordDifferenceLabel(7), 1);
    }

    private static void promise34WordCount() {
        EventStructures x = Make.parsed("a;b+a;c", "a|b");
        for (int s : NO_STRUCTURES) {
            due("34: no structure", x.wordCount(s), NO_SUCH_ELEMENT);
        }
        due("34: a word counts once", x.wordCount(0), 4);
        due("34: any order", x.wordCount(1), 5);
        x.clear(1);
        due("34: the empty word", x.wordCount(1), 1);
        due("34: the other one stays", x.wordCount(0), 4);
        x = Make.parsed("a|a|a|a|a|a|a|a", "a|b|c|d|e|f|a|b");
        due("34: one label", x.wordCount(0), 9);
        // The sum over all kinds of words: for each choice of i times a, j times b and k other labels, their orders.
        int[] factorials = {1, 1, 2, 6, 24, 120, 720, 5040, 40320};
        int[] chooseFour = {1, 4, 6, 4, 1};
        int words = 0;
        for (int i = 0; i <= 2; i++) {
            for (int j = 0; j <= 2; j++) {
                for (int k = 0; k <= 4; k++) {
                    words += chooseFour[k] * factorials[i + j + k] / factorials[i] / factorials[j];
                }
            }
        }
        due("34: all labels", x.wordCount(1), words);
        x.addCause(1, 0, 6);
        due("34: a cause that changes no word", x.wordCount(1), words);
        x.setLabel(1, 0, 1);
        x.setLabel(1, 6, 1);
        x.setLabel(0, 0, 3);
        due("34: one of two labels", x.wordCount(0), 8 + 1 + 36 - 8 + 7);
    }

    /** Seven events with one label, and one more behind the latest three: 15 words have it behind three or more. */
    private static void manyWaysToOneWord() {
        EventStructures x = Make.events(1, 0, 0, 0, 0, 0, 0, 0, 1);
        for (int e = 4; e < 7; e++) {
            x.addCause(1, e, 7);
        }
        due("34: many ways to one word", x.wordCount(1), 8 + 15);
        x.copy(1, 0);
        x.setLabel(0, 7, 2);
        due("32: many ways to one word", x.wordDifferenceLength(), 4);
        due("33: many ways to one word", x.wordDifferenceLabel(3), 1);
    }

    private static void promise35Refine() {
        EventStructures x = Make.parsed("a;c;b", "a");
        for (int s : NO_STRUCTURES) {
            due("35: no structure", x.refine(s, 9, 0, 0, true), NO_SUCH_ELEMENT);
        }
        for (int label : new int[] {-1, 6, LOWEST, HIGHEST}) {
            due("35: no label", x.refine(0, label, 0, 0, true), OUT_OF_RANGE);
            due("35: no first", x.refine(0, 0, label, 0, true), OUT_OF_RANGE);
            due("35: no second", x.refine(0, 0, 0, label, false), OUT_OF_RANGE);
        }
        due("35: in sequence", x.refine(0, 2, 4, 5, true), 4);
        int[] labels = {0, 4, 5, 1};
        int[] histories = {1, 3, 7, 15};
        for (int e = 0; e < 4; e++) {
            due("35: label", x.label(0, e), labels[e]);
            due("35: history", x.history(0, e), histories[e]);
        }
        due("35: side by side", x.refine(0, 4, 2, 2, false), 5);
        due("35: both after the cause", x.history(0, 1), 3);
        due("35: both after the cause", x.history(0, 2), 5);
        due("35: in no pair", x.concurrentPairs(0), 1);
        due("35: both before the effect", x.history(0, 3), 15);
        due("35: direct causes of the effect", x.addCause(0, 2, 3), 0);
        due("35: direct causes of the effect", x.addCause(0, 1, 3), 0);
        x.occur(0, 0);
        due("35: out of range", x.refine(0, 0, 0, 6, true), OUT_OF_RANGE);
        due("35: current kept", x.current(0), 1);
        due("35: no such event", x.refine(0, 4, 0, 0, true), 5);
        due("35: current empty", x.current(0), 0);

        x = Make.parsed("a+a", "a;a");
        due("35: both sides of a conflict", x.refine(0, 0, 0, 1, true), 4);
        due("35: four conflict pairs", x.addConflict(0, 0, 2), 0);
        due("35: four conflict pairs", x.addConflict(0, 1, 2), 0);
        due("35: four conflict pairs", x.addConflict(0, 3, 0), 0);
        due("35: four conflict pairs", x.addConflict(0, 3, 1), 0);
        due("35: not within", x.areInConflict(0, 0, 1), 0);
        due("35: new events are not replaced", x.label(0, 0), 0);
        due("35: both sides of a cause pair", x.refine(1, 0, 3, 4, false), 4);
        due("35: four cause pairs", x.addCause(1, 0, 2), 0);
        due("35: four cause pairs", x.addCause(1, 1, 2), 0);
        due("35: four cause pairs", x.addCause(1, 0, 3), 0);
        due("35: four cause pairs", x.addCause(1, 1, 3), 0);
        due("35: not within", x.isBelow(1, 0, 1), 0);
        due("35: to eight", x.refine(0, 0, 1, 2, true), 6);
        due("35: to eight", x.refine(0, 2, 1, 2, true), 8);
        due("35: too large", x.refine(0, 2, 0, 0, true), TOO_LARGE);
        due("35: unchanged", x.eventCount(0), 8);
        due("35: nothing to replace", x.refine(0, 5, 0, 0, true), 8);

        x = new EventStructures();
        x.addEvent(0, 1, 20);
        x.addEvent(0, 2, 3);
        x.addConflict(0, 0, 1);
        x.refine(0, 1, 0, 0, true);
        due("35: both have the duration", x.shortestTime(0, 3), 40);
        due("35: the later one is shifted", x.totalTime(0, 4), 3);
        due("35: conflict with the first", x.addConflict(0, 0, 2), 0);
        due("35: conflict with the second", x.addConflict(0, 2, 1), 0);
        due("35: in sequence, direct", x.addCause(0, 0, 1), 0);
    }

    private static void promise36ClearNet() {
        EventStructures x = new EventStructures();
        due("36: nothing", x.clearNet(), 0);
        x.addPlace(true);
        x.addPlace(false);
        x.addTransition(1, 2, 0);
        x.unfold(0);
        due("36: places", x.clearNet(), 2);
        due("36: nothing left", x.clearNet(), 0);
        due("36: the structure stays", x.eventCount(0), 1);
        due("36: the conditions stay", x.conditionCount(), 2);
        due("36: no place", x.addTransition(1, 0, 0), NO_SUCH_ELEMENT);
        due("36: places from 0", x.addPlace(false), 0);
        due("36: transitions from 0", x.addTransition(1, 0, 0), 0);
        due("36: marking is gone", x.unfold(0), 0);
        due("36: marking is gone", x.conditionCount(), 0);
    }

    private static void promise37AddPlace() {
        EventStructures x = new EventStructures();
        for (int p = 0; p < 6; p++) {
            due("37: place", x.addPlace(p % 2 == 0), p);
        }
        due("37: full", x.addPlace(true), FULL);
        due("37: full", x.addPlace(false), FULL);
        due("37: unfold", x.unfold(0), 0);
        due("37: marked ones", x.conditionCount(), 3);
        due("37: six places", x.clearNet(), 6);
    }

    private static void promise38AddTransition() {
        EventStructures x = new EventStructures();
        due("38: empty before full", x.addTransition(0, 0, 0), OUT_OF_RANGE);
        x.addPlace(true);
        x.addPlace(false);
        for (int set : new int[] {4, 5, 64, -1, LOWEST, HIGHEST}) {
            due("38: no input place", x.addTransition(set, 0, 9), NO_SUCH_ELEMENT);
            due("38: no output place", x.addTransition(0, set, 9), NO_SUCH_ELEMENT);
        }
        due("38: no input", x.addTransition(0, 1, 0), OUT_OF_RANGE);
        for (int label : new int[] {-1, 6, LOWEST, HIGHEST}) {
            due("38: no label", x.addTransition(1, 1, label), OUT_OF_RANGE);
        }
        for (int t = 0; t < 6; t++) {
            due("38: transition", x.addTransition(2, 3, t), t);
        }
        due("38: full", x.addTransition(2, 0, 0), FULL);
        due("38: no place before full", x.addTransition(4, 0, 0), NO_SUCH_ELEMENT);
        due("38: out of range before full", x.addTransition(0, 0, 0), OUT_OF_RANGE);
        due("38: out of range before full", x.addTransition(1, 0, 6), OUT_OF_RANGE);
    }

    private static void promise39Unfold() {
        EventStructures x = new EventStructures();
        for (int s : NO_STRUCTURES) {
            due("39: no structure", x.unfold(s), NO_SUCH_ELEMENT);
        }
        due("39: no net", x.unfold(0), 0);
        // Two tokens go to place 2 by two ways; transition 2 takes them one by one, in the order of the conditions.
        x.addPlace(true);
        x.addPlace(true);
        x.addPlace(false);
        x.addPlace(false);
        x.addTransition(1, 4, 3);
        x.addTransition(2, 12, 4);
        x.addTransition(4, 0, 5);
        x.addTransition(12, 0, 1);
        x.addEvent(0, 0, 9);
        x.occur(0, 0);
        due("39: events", x.unfold(0), 6);
        due("39: conditions", x.conditionCount(), 5);
        due("39: current empty", x.current(0), 0);
        int[] labels = {3, 4, 5, 5, 1, 1};
        int[] histories = {1, 2, 5, 10, 19, 34};
        for (int e = 0; e < 6; e++) {
            due("39: label", x.label(0, e), labels[e]);
            due("39: history", x.history(0, e), histories[e]);
        }
        due("39: common condition", x.areInConflict(0, 2, 4), 1);
        due("39: common condition", x.areInConflict(0, 3, 5), 1);
        due("39: common condition in place 3", x.areInConflict(0, 4, 5), 1);
        due("39: no common condition", x.areInConflict(0, 2, 5), 0);
        due("39: no common condition", x.areInConflict(0, 2, 3), 0);
        due("39: duration", x.totalTime(0, 1), 1);
        due("39: a direct cause", x.addCause(0, 1, 4), 0);
        due("39: a conflict pair", x.addConflict(0, 4, 2), 0);

        x.clearNet();
        x.addPlace(true);
        x.addPlace(false);
        x.addPlace(false);
        x.addTransition(1, 2, 0);
        x.addTransition(1, 4, 1);
        x.addTransition(6, 0, 2);
        due("39: conditions in conflict do not hold together", x.unfold(1), 2);
        due("39: conditions in conflict", x.areInConflict(1, 0, 1), 1);
        x.addTransition(3, 0, 3);
        due("39: nor does a condition with what it came from", x.unfold(1), 2);
        x.addTransition(2, 1, 3);
        x.occur(1, 0);
        due("39: endless", x.unfold(1), TOO_LARGE);
        due("39: unchanged", x.eventCount(1), 2);
        due("39: current kept", x.current(1), 1);
        due("39: conditions kept", x.conditionCount(), 3);

        x.clearNet();
        x.addPlace(true);
        for (int t = 0; t < 6; t++) {
            x.addTransition(1, 0, t);
        }
        due("39: six in conflict", x.unfold(1), 6);
        due("39: six in conflict", x.configurationCount(1), 7);
        eightAndNine();
    }

    /** The unfolding with exactly eight events stands, the one with nine does not. */
    private static void eightAndNine() {
        EventStructures x = new EventStructures();
        x.addPlace(true);
        x.addPlace(true);
        x.addPlace(true);
        x.addPlace(false);
        x.addPlace(false);
        x.addTransition(1, 8, 0);
        x.addTransition(2, 8, 1);
        x.addTransition(4, 16, 2);
        x.addTransition(8, 16, 3);
        x.addTransition(16, 0, 4);
        due("39: eight", x.unfold(0), 8);
        due("39: eight", x.conditionCount(), 8);
        x.addTransition(4, 0, 5);
        due("39: nine", x.unfold(0), TOO_LARGE);
        due("39: eight stay", x.eventCount(0), 8);
        int[] labels = {0, 1, 2, 3, 3, 4, 4, 4};
        int[] histories = {1, 2, 4, 9, 18, 36, 73, 146};
        for (int e = 0; e < 8; e++) {
            due("39: label", x.label(0, e), labels[e]);
            due("39: history", x.history(0, e), histories[e]);
        }
    }

    private static void promise40ConditionCount() {
        EventStructures x = new EventStructures();
        due("40: none yet", x.conditionCount(), 0);
        x.addPlace(true);
        due("40: no unfolding yet", x.conditionCount(), 0);
        x.addPlace(false);
        x.addPlace(false);
        x.addTransition(1, 6, 0);
        x.save();
        x.unfold(0);
        due("40: with the outputs", x.conditionCount(), 3);
        x.clear(0);
        x.clearNet();
        due("40: stays", x.conditionCount(), 3);
        x.restore();
        due("40: stays with restore", x.conditionCount(), 3);
        due("40: failing", x.unfold(2), NO_SUCH_ELEMENT);
        x.addTransition(2, 1, 0);
        due("40: too large", x.unfold(1), TOO_LARGE);
        due("40: stays", x.conditionCount(), 3);
        x.clearNet();
        x.unfold(1);
        due("40: empty net", x.conditionCount(), 0);
    }

    private static void promise41Append() {
        EventStructures x = new EventStructures();
        for (int c : new int[] {31, 127, 0, -1, LOWEST, HIGHEST, 'a' + 256}) {
            due("41: out of range", x.append(c), OUT_OF_RANGE);
        }
        due("41: lowest", x.append(32), 1);
        due("41: highest", x.append(126), 2);
        for (int i = 3; i <= 40; i++) {
            due("41: length", x.append('a'), i);
        }
        due("41: full", x.append('a'), FULL);
        due("41: out of range before full", x.append(127), OUT_OF_RANGE);
        due("41: parse", x.parse(0), -100);
        due("41: empty again", x.append('a'), 1);
    }

    private static void promise42Parse() {
        EventStructures x = new EventStructures();
        x.append('a');
        for (int s : NO_STRUCTURES) {
            due("42: no structure", x.parse(s), NO_SUCH_ELEMENT);
            due("42: the text is gone", x.append('b'), 1);
        }
        due("42: parse", x.parse(0), 1);
        due("42: the text is gone", x.parse(0), -100);
        due("42: unchanged", x.label(0, 0), 1);
        String[] wrong = {"", "+", ")", "g", " ", "1", "A", "aa", "a0", "a(", "a)", "a+", "a|", "a;", "a;;b", "(", "()",
            "(a", "(a+b", "((a)", "(a))", "a+(b|c;)", "a b", "a+b)", "(0)1", "a;~", "((((((((a", "a;b;c;d;e;f;a;b;c,"};
        int[] positions = {0, 0, 0, 0, 0, 0, 0, 1, 1, 1, 1, 2, 2, 2, 2, 1, 1,
            2, 4, 4, 3, 7, 1, 3, 3, 2, 9, 17};
        x.occur(0, 0);
        for (int i = 0; i < wrong.length; i++) {
            due("42: " + wrong[i], Make.parse(x, 0, wrong[i]), -100 - positions[i]);
        }
        due("42: current kept", x.current(0), 1);
        due("42: unchanged", x.label(0, 0), 1);
        due("42: parse", Make.parse(x, 0, "a"), 1);
        due("42: current empty", x.current(0), 0);
        due("42: too few closed", Make.parse(x, 0, "((((((((((((((((((((a))))))))))))))))))"), -139);
        due("42: nested", Make.parse(x, 0, "(((((((((((((((((((ab"), -120);
        due("42: nested", Make.parse(x, 0, "(((((((((((((((((((a)))))))))))))))))))"), 1);
        due("42: all open", Make.parse(x, 0, "(".repeat(40)), -140);
        parsedStructures();
        parsedSequences();
        parsedSizes();
    }

    private static void parsedStructures() {
        EventStructures x = new EventStructures();
        due("42: labels", Make.parse(x, 0, "a|b|c|d|e|f"), 6);
        for (int e = 0; e < 6; e++) {
            due("42: label", x.label(0, e), e);
        }
        due("42: duration", x.totalTime(0, 63), 6);
        due("42: side by side", x.concurrentPairs(0), 15);
        due("42: nothing", Make.parse(x, 0, "0"), 0);
        due("42: nothing", Make.parse(x, 0, "0|(0+0);0"), 0);
        due("42: binding", Make.parse(x, 0, "a+b|c;d"), 4);
        due("42: binding", x.history(0, 3), 12);
        due("42: binding", x.areInConflict(0, 0, 1), 1);
        due("42: binding", x.areInConflict(0, 0, 3), 1);
        due("42: binding", x.areInConflict(0, 1, 2), 0);
        due("42: each pair of a choice", x.addConflict(0, 3, 0), 0);
        due("42: no pair", x.addConflict(0, 1, 2), 1);
        due("42: choice of three", Make.parse(x, 0, "a+b+c"), 3);
        for (int e = 0; e < 3; e++) {
            for (int f = 0; f < 3; f++) {
                due("42: each two are in conflict", x.areInConflict(0, e, f), e == f ? 0 : 1);
            }
        }
        due("42: each two are a pair", x.addConflict(0, 0, 2), 0);
        due("42: each two are a pair", x.addConflict(0, 1, 2), 0);
        due("42: parentheses", Make.parse(x, 0, "(a+b)|c"), 3);
        due("42: parentheses", x.concurrentPairs(0), 2);
    }

    private static void parsedSequences() {
        EventStructures x = new EventStructures();
        due("42: copies", Make.parse(x, 0, "(a+b);(c;d)"), 6);
        int[] labels = {0, 1, 2, 3, 2, 3};
        int[] histories = {1, 2, 5, 13, 18, 50};
        for (int e = 0; e < 6; e++) {
            due("42: copies", x.label(0, e), labels[e]);
            due("42: copies", x.history(0, e), histories[e]);
        }
        due("42: direct cause of all of the copy", x.addCause(0, 0, 3), 0);
        due("42: direct cause of all of the copy", x.addCause(0, 1, 5), 0);
        due("42: inner causes of the copy", x.addCause(0, 4, 5), 0);
        due("42: no conflict pair between copies", x.addConflict(0, 2, 4), 1);
        due("42: inner conflicts of the copies", Make.parse(x, 0, "(a+b);(c+d)"), 6);
        due("42: inner conflicts of the copies", x.addConflict(0, 4, 5), 0);
        due("42: inner conflicts of the copies", x.addConflict(0, 2, 3), 0);
        due("42: order of the copies", Make.parse(x, 0, "(a+b);c+d"), 5);
        due("42: order of the copies", x.label(0, 4), 3);
        due("42: history of the copies", x.history(0, 3), 10);
        due("42: from the left", Make.parse(x, 0, "a;b;c"), 3);
        due("42: all are direct causes", x.addCause(0, 0, 2), 0);
        due("42: from the right", Make.parse(x, 0, "a;(b;c)"), 3);
        due("42: all are direct causes", x.addCause(0, 0, 2), 0);
        due("42: nothing first", Make.parse(x, 0, "0;a;0;b"), 2);
        due("42: nothing first", x.history(0, 1), 3);
        due("42: sequence behind others", Make.parse(x, 0, "a|b|(c+d);e"), 6);
        due("42: sequence behind others", x.history(0, 4), 20);
        due("42: sequence behind others", x.history(0, 5), 40);
        due("42: increasing order", Make.parse(x, 0, "((a|b)+c);d"), 5);
        due("42: increasing order", x.history(0, 3), 11);
        due("42: increasing order", x.history(0, 4), 20);
        due("42: copies of nothing", Make.parse(x, 0, "(a+b);0"), 2);
        due("42: a choice with nothing", Make.parse(x, 0, "(a+0);b"), 2);
    }

    private static void parsedSizes() {
        EventStructures x = new EventStructures();
        due("42: eight", Make.parse(x, 1, "a|b|c|d|e|f|a|b"), 8);
        x.occur(1, 3);
        due("42: nine", Make.parse(x, 1, "a|b|c|d|e|f|a|b|c"), TOO_LARGE);
        due("42: unchanged", x.eventCount(1), 8);
        due("42: current kept", x.current(1), 8);
        due("42: the text is gone", x.append('a'), 1);
        due("42: one", x.parse(1), 1);
        due("42: an error goes before the size", Make.parse(x, 1, "a|b|c|d|e|f|a|b|c|"), -118);
        due("42: eight by copies", Make.parse(x, 1, "(a+b+c+d);e"), 8);
        due("42: nine by copies", Make.parse(x, 1, "(a+b+c);(d|e)"), TOO_LARGE);
        due("42: many copies", Make.parse(x, 1, "(a+b);(c+d);(e+f)"), TOO_LARGE);
        due("42: unchanged", x.eventCount(1), 8);
        due("42: a large part", Make.parse(x, 1, "0;(a|b|c|d|e|f|a|b|c)"), TOO_LARGE);
        due("42: eight in a chain", Make.parse(x, 1, "a;b;c;d;e;f;a;b"), 8);
        due("42: eight in a chain", x.history(1, 7), 255);
        due("42: eight in conflict", Make.parse(x, 1, "a+b+c+d+e+f+a+b"), 8);
        due("42: eight in conflict", x.configurationCount(1), 9);
        due("42: copies of nothing", Make.parse(x, 1, "(a+b+c+d+e+f+a+b);0"), 8);
        due("42: nine in conflict", Make.parse(x, 1, "a+b+c+d+e+f+a+b+c"), TOO_LARGE);
    }

    private static void promise43Save() {
        EventStructures x = Make.parsed("a|b", "c");
        due("43: save", x.save(), 3);
        due("43: both stay", x.eventCount(0), 2);
        x.occur(0, 1);
        due("43: save with current", x.save(), 3);
        due("43: current stays", x.current(0), 2);
        x.clear(0);
        x.clear(1);
        due("43: restored", x.restore(), 3);
        due("43: the later state", x.current(0), 2);
        x.clear(0);
        due("43: replaced", x.save(), 1);
        x.addEvent(0, 0, 0);
        due("43: restored", x.restore(), 1);
        due("43: restored", x.eventCount(0), 0);
        due("43: of a new object", new EventStructures().save(), 0);
        x = new EventStructures();
        x.save();
        due("43: an empty state is a state", x.restore(), 0);
    }

    private static void promise44Restore() {
        EventStructures x = new EventStructures();
        x.addEvent(0, 0, 1);
        due("44: nothing saved", x.restore(), NONE);
        due("44: unchanged", x.eventCount(0), 1);
        x.addEvent(0, 1, 50);
        x.addEvent(0, 2, 7);
        x.addCause(0, 0, 1);
        x.addConflict(0, 1, 2);
        x.addEvent(1, 3, 1);
        x.addPlace(true);
        x.addPlace(false);
        x.addTransition(1, 2, 4);
        x.occur(0, 0);
        x.occur(0, 1);
        x.occur(1, 0);
        x.save();
        x.clearNet();
        x.addPlace(false);
        x.addPlace(true);
        x.addTransition(3, 3, 5);
        x.addTransition(2, 1, 5);
        x.clear(1);
        x.copy(1, 0);
        x.append('a');
        for (int again = 0; again < 2; again++) {
            due("44: restore", x.restore(), 4);
            due("44: current", x.current(0), 3);
            due("44: current", x.current(1), 1);
            due("44: causes", x.history(0, 1), 3);
            due("44: conflicts", x.areInConflict(0, 1, 2), 1);
            due("44: durations", x.totalTime(0, 3), 51);
            due("44: labels", x.label(1, 0), 3);
            due("44: words", x.wordCount(1), 2);
            due("44: net", x.unfold(1), 1);
            due("44: transition", x.label(1, 0), 4);
            due("44: conditions", x.conditionCount(), 2);
            due("44: no other transition", x.addTransition(1, 2, 0), 1);
            due("44: places", x.clearNet(), 2);
            x.addPlace(true);
            x.addTransition(1, 0, 3);
            x.removeEvent(0, 0);
        }
        due("44: the text stays", x.append('b'), 2);
    }

    public static void main(String[] args) {
        constants();
        examples();
        promise1NewObject();
        promise2AddEvent();
        promise3RemoveEvent();
        removeEach();
        promise4AddCause();
        promise5AddConflict();
        promise6SetLabel();
        promise7Clear();
        promise8Copy();
        promise9EventCount();
        promise10Label();
        promise11IsBelow();
        promise12AreInConflict();
        promise13History();
        promise14ConcurrentPairs();
        promise15IsConfiguration();
        promise16ConfigurationCount();
        promise17MaximalCount();
        promise18MaximalConfiguration();
        promise19Enabled();
        promise20StepCount();
        promise21LargestStep();
        promise22RunCount();
        promise23StepRunCount();
        promise24ShortestTime();
        promise25TotalTime();
        promise26Occur();
        promise27Withdraw();
        promise28Current();
        promise29AreBisimilar();
        promise30SeparationRound();
        promise31EquivalenceClasses();
        promise32WordDifferenceLength();
        promise33WordDifferenceLabel();
        promise34WordCount();
        manyWaysToOneWord();
        promise35Refine();
        promise36ClearNet();
        promise37AddPlace();
        promise38AddTransition();
        promise39Unfold();
        promise40ConditionCount();
        promise41Append();
        promise42Parse();
        promise43Save();
        promise44Restore();
        Checks.finish();
    }
}
