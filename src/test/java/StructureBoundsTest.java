/** Each sentence about structures and their events (promises 1 to 14) that names a boundary case, by itself. */
public final class StructureBoundsTest implements Codes {
    private StructureBoundsTest() {
    }

    private static void sentence(String text) {
        Checks.sentence(text);
    }

    private static void due(String call, long got, long want) {
        Checks.due(call, got, want);
    }

    /** Numbers that are no event of a structure with some events. */
    private static int[] noEvents(int count) {
        return new int[] {-1, count, count + 1, 8, 31, 32, 256, LOWEST, HIGHEST};
    }

    // Promise 1

    private static void newStructuresAreEmpty() {
        sentence("1: Creates a workbench with two structures without events");
        EventStructures x = new EventStructures();
        for (int s = 0; s < 2; s++) {
            due("eventCount", x.eventCount(s), 0);
            due("label(s, 0)", x.label(s, 0), NO_SUCH_ELEMENT);
            due("clear", x.clear(s), 0);
        }
        due("save", x.save(), 0);
    }

    private static void newNetIsEmpty() {
        sentence("1: a net without places");
        EventStructures x = new EventStructures();
        due("addTransition(1, 0, 0)", x.addTransition(1, 0, 0), NO_SUCH_ELEMENT);
        due("clearNet", x.clearNet(), 0);
        due("unfold", x.unfold(0), 0);
        due("conditionCount", x.conditionCount(), 0);
        due("addPlace", x.addPlace(false), 0);
        due("addTransition", x.addTransition(1, 0, 0), 0);
    }

    private static void newTextIsEmpty() {
        sentence("1: and an empty text buffer");
        due("parse", new EventStructures().parse(0), -100);
        due("append", new EventStructures().append('a'), 1);
    }

    private static void objectsAreApart() {
        sentence("1: Creates a workbench");
        EventStructures x = Make.events(1, 3, 4);
        Make.occur(x, 1, 1);
        x.addPlace(true);
        x.append('a');
        x.save();
        EventStructures y = new EventStructures();
        due("eventCount", y.eventCount(1), 0);
        due("addPlace", y.addPlace(false), 0);
        due("append", y.append('b'), 1);
        due("restore", y.restore(), NONE);
        due("addEvent", y.addEvent(1, 5, 0), 0);
        due("label of the other object", x.label(1, 0), 3);
        due("current of the other object", x.current(1), 2);
    }

    // Promise 2

    private static void eightEvents() {
        sentence("Structures: A structure has at most 8 events, numbered from 0");
        for (int s = 0; s < 2; s++) {
            EventStructures x = new EventStructures();
            for (int e = 0; e < 8; e++) {
                due("addEvent", x.addEvent(s, 0, 0), e);
            }
            due("the ninth", x.addEvent(s, 0, 0), FULL);
            due("eventCount", x.eventCount(s), 8);
            due("in the other structure", x.addEvent(1 - s, 0, 0), 0);
        }
    }

    private static void fullUntilOneGoes() {
        sentence("2: FULL if there are 8 events");
        EventStructures x = Make.many(0, 8);
        due("addEvent", x.addEvent(0, 5, LONGEST), FULL);
        x.removeEvent(0, 3);
        due("after removeEvent", x.addEvent(0, 0, 0), 7);
        due("full again", x.addEvent(0, 0, 0), FULL);
        x.clear(0);
        due("after clear", x.addEvent(0, 0, 0), 0);
    }

    private static void labelsOfNewEvents() {
        sentence("2: label: the label, 0 to 5");
        EventStructures x = new EventStructures();
        for (int label : new int[] {-1, 6, 7, 256, LOWEST, HIGHEST}) {
            due("addEvent with label " + label, x.addEvent(0, label, 0), OUT_OF_RANGE);
        }
        for (int label = 0; label <= 5; label++) {
            due("addEvent with label " + label, x.addEvent(0, label, 0), label);
            due("label", x.label(0, label), label);
        }
    }

    private static void durationsOfNewEvents() {
        sentence("2: duration: the duration, 0 to 1000000000");
        EventStructures x = new EventStructures();
        for (int duration : new int[] {-1, LONGEST + 1, LOWEST, HIGHEST, -LONGEST}) {
            due("addEvent with duration " + duration, x.addEvent(0, 0, duration), OUT_OF_RANGE);
        }
        int[] taken = {0, 1, LONGEST - 1, LONGEST};
        for (int i = 0; i < taken.length; i++) {
            due("addEvent with duration " + taken[i], x.addEvent(0, 0, taken[i]), i);
            due("totalTime", x.totalTime(0, 1 << i), taken[i]);
        }
    }

    private static void newEventsStandAlone() {
        sentence("2: Adds an event without causes and conflicts");
        EventStructures x = Make.chain(0, 8);
        for (int e = 0; e < 8; e++) {
            for (int f = 0; f < e; f++) {
                x.addConflict(0, e, f);
            }
        }
        x.removeEvent(0, 7);
        due("addEvent after removeEvent", x.addEvent(0, 0, 0), 7);
        due("history", x.history(0, 7), 128);
        due("enabled", x.enabled(0, 0), 129);
        due("areInConflict", x.areInConflict(0, 7, 0), 0);
        x.clear(0);
        for (int e = 0; e < 8; e++) {
            due("addEvent after clear", x.addEvent(0, 0, 0), e);
            due("history", x.history(0, e), 1 << e);
        }
        due("concurrentPairs", x.concurrentPairs(0), 28);
    }

    // Promise 3

    private static void removedToTheLast() {
        sentence("3: Returns the number of remaining events");
        EventStructures x = Make.many(1, 8);
        for (int left = 7; left >= 0; left--) {
            due("removeEvent", x.removeEvent(1, 0), left);
            due("eventCount", x.eventCount(1), left);
        }
        due("removeEvent", x.removeEvent(1, 0), NO_SUCH_ELEMENT);
    }

    private static void removedEventsExist() {
        sentence("3: NO_SUCH_ELEMENT if there is no such structure or event");
        EventStructures x = Make.many(0, 3);
        for (int e : noEvents(3)) {
            due("removeEvent " + e, x.removeEvent(0, e), NO_SUCH_ELEMENT);
        }
        due("removeEvent of the empty structure", x.removeEvent(1, 0), NO_SUCH_ELEMENT);
        due("removeEvent of the last one", x.removeEvent(0, 2), 2);
        due("removeEvent of the first one", x.removeEvent(0, 0), 1);
        x = Make.many(0, 8);
        due("removeEvent 8 of eight", x.removeEvent(0, 8), NO_SUCH_ELEMENT);
        due("removeEvent 7 of eight", x.removeEvent(0, 7), 7);
    }

    private static void pairsGoWithTheirEvent() {
        sentence("3: Removes an event with all its cause pairs and conflict pairs");
        for (int removed = 0; removed < 3; removed++) {
            EventStructures x = Make.chain(0, 3);
            x.addConflict(0, removed, (removed + 1) % 3);
            x.addConflict(0, removed, (removed + 2) % 3);
            due("removeEvent", x.removeEvent(0, removed), 2);
            due("areInConflict", x.areInConflict(0, 0, 1), 0);
            due("isBelow", x.isBelow(0, 0, 1), removed == 1 ? 0 : 1);
            x.addEvent(0, 0, 0);
            due("history of the next new event", x.history(0, 2), 4);
            due("conflict of the next new event", x.addConflict(0, 2, 0), 1);
        }
    }

    private static void laterNumbersDecrease() {
        sentence("3: The numbers of all later events decrease by 1");
        for (int removed : new int[] {0, 3, 7}) {
            EventStructures x = new EventStructures();
            for (int e = 0; e < 8; e++) {
                x.addEvent(0, e % 6, 10 * e);
            }
            due("removeEvent", x.removeEvent(0, removed), 7);
            for (int e = 0; e < 7; e++) {
                int old = e < removed ? e : e + 1;
                due("label", x.label(0, e), old % 6);
                due("duration", x.totalTime(0, 1 << e), 10 * old);
            }
        }
    }

    private static void pairsOfLaterEventsMove() {
        sentence("3: The numbers of all later events decrease by 1, in their pairs, too");
        EventStructures x = Make.many(0, 8);
        x.addCause(0, 6, 7);
        x.addCause(0, 0, 7);
        x.addConflict(0, 5, 7);
        x.addConflict(0, 0, 1);
        due("removeEvent", x.removeEvent(0, 2), 7);
        due("history", x.history(0, 6), 1 | 32 | 64);
        due("conflict", x.areInConflict(0, 6, 4), 1);
        due("conflict of earlier events", x.areInConflict(0, 0, 1), 1);
        due("no conflict where one was", x.areInConflict(0, 5, 6), 0);
    }

    // Promise 4

    private static void causePairIsNew() {
        sentence("4: Returns 1 if the pair is new, 0 if it was there");
        EventStructures x = Make.many(0, 8);
        due("addCause(0, 7)", x.addCause(0, 0, 7), 1);
        due("addCause(0, 7) again", x.addCause(0, 0, 7), 0);
        due("addCause(6, 3)", x.addCause(0, 6, 3), 1);
        due("addCause(3, 0)", x.addCause(0, 3, 0), 1);
        due("below, but no pair yet", x.addCause(0, 6, 7), 1);
        due("now a pair", x.addCause(0, 6, 7), 0);
        due("a conflict pair is no cause pair", x.addConflict(0, 1, 2), 1);
        due("a conflict pair is no cause pair", x.addCause(0, 1, 2), 1);
    }

    private static void causesExist() {
        sentence("4: NO_SUCH_ELEMENT if there is no such structure or event");
        EventStructures x = Make.many(0, 2);
        for (int e : noEvents(2)) {
            due("cause " + e, x.addCause(0, e, 1), NO_SUCH_ELEMENT);
            due("effect " + e, x.addCause(0, 0, e), NO_SUCH_ELEMENT);
        }
        due("the last event", x.addCause(0, 0, 1), 1);
        due("the empty structure", x.addCause(1, 0, 0), NO_SUCH_ELEMENT);
    }

    private static void noEventCausesItself() {
        sentence("4: CYCLE if both events are the same");
        EventStructures x = Make.many(0, 8);
        for (int e = 0; e < 8; e++) {
            due("addCause of " + e, x.addCause(0, e, e), CYCLE);
            due("history", x.history(0, e), 1 << e);
        }
    }

    private static void noCycles() {
        sentence("4: CYCLE if the effect is below the cause");
        for (int length = 2; length <= 8; length++) {
            EventStructures x = Make.chain(0, length);
            due("back along a chain of " + length, x.addCause(0, length - 1, 0), CYCLE);
            due("isBelow", x.isBelow(0, length - 1, 0), 0);
        }
        EventStructures x = Make.many(0, 3);
        x.addCause(0, 2, 1);
        x.addCause(0, 1, 0);
        due("back along falling numbers", x.addCause(0, 0, 2), CYCLE);
        due("two effects are no cycle", x.addCause(0, 2, 0), 1);
        x.removeEvent(0, 1);
        due("the pair of 2 and 0 is left", x.addCause(0, 0, 1), CYCLE);
    }

    private static void noCycleAnyMore() {
        sentence("4: CYCLE if the effect is below the cause, when the chain is cut");
        EventStructures x = Make.chain(0, 3);
        due("before", x.addCause(0, 2, 0), CYCLE);
        x.removeEvent(0, 1);
        due("after", x.addCause(0, 1, 0), 1);
    }

    // Promise 5

    private static void conflictPairIsNew() {
        sentence("5: Returns 1 if the pair is new, 0 if it was there, in any order");
        EventStructures x = Make.many(1, 8);
        due("addConflict(0, 7)", x.addConflict(1, 0, 7), 1);
        due("addConflict(0, 7) again", x.addConflict(1, 0, 7), 0);
        due("addConflict(7, 0)", x.addConflict(1, 7, 0), 0);
        due("addConflict(7, 6)", x.addConflict(1, 7, 6), 1);
        due("addConflict(6, 7)", x.addConflict(1, 6, 7), 0);
        x.addCause(1, 6, 5);
        due("in conflict, but no pair yet", x.areInConflict(1, 5, 7), 1);
        due("in conflict, but no pair yet", x.addConflict(1, 5, 7), 1);
        due("a cause pair is no conflict pair", x.addConflict(1, 6, 5), 1);
    }

    private static void conflictsExist() {
        sentence("5: NO_SUCH_ELEMENT if there is no such structure or event");
        EventStructures x = Make.many(1, 2);
        for (int e : noEvents(2)) {
            due("first " + e, x.addConflict(1, e, 1), NO_SUCH_ELEMENT);
            due("second " + e, x.addConflict(1, 0, e), NO_SUCH_ELEMENT);
        }
        due("the last event", x.addConflict(1, 0, 1), 1);
        due("the empty structure", x.addConflict(0, 0, 1), NO_SUCH_ELEMENT);
    }

    private static void noConflictPairOfOne() {
        sentence("5: OUT_OF_RANGE if both events are the same");
        EventStructures x = Make.many(1, 8);
        for (int e = 0; e < 8; e++) {
            due("addConflict of " + e, x.addConflict(1, e, e), OUT_OF_RANGE);
            due("areInConflict", x.areInConflict(1, e, e), 0);
        }
    }

    // Promise 6

    private static void previousLabel() {
        sentence("6: Returns the previous label");
        EventStructures x = Make.events(0, 5, 0, 1, 2, 3, 4, 5, 0);
        due("from 5 to 0", x.setLabel(0, 0, 0), 5);
        due("from 0 to 0", x.setLabel(0, 0, 0), 0);
        due("from 0 to 5", x.setLabel(0, 0, 5), 0);
        due("of the last event", x.setLabel(0, 7, 5), 0);
        due("label", x.label(0, 7), 5);
    }

    private static void newLabels() {
        sentence("6: label: the new label, 0 to 5");
        EventStructures x = Make.events(0, 3);
        for (int label : new int[] {-1, 6, 7, 256, LOWEST, HIGHEST}) {
            due("setLabel to " + label, x.setLabel(0, 0, label), OUT_OF_RANGE);
            due("label", x.label(0, 0), 3);
        }
        for (int label = 0; label <= 5; label++) {
            due("setLabel to " + label, x.setLabel(0, 0, label), label == 0 ? 3 : label - 1);
        }
    }

    private static void labelledEventsExist() {
        sentence("6: NO_SUCH_ELEMENT if there is no such structure or event");
        EventStructures x = Make.many(0, 3);
        for (int e : noEvents(3)) {
            due("setLabel of " + e, x.setLabel(0, e, 0), NO_SUCH_ELEMENT);
        }
        due("setLabel of the last one", x.setLabel(0, 2, 1), 0);
        due("setLabel in the empty structure", x.setLabel(1, 0, 0), NO_SUCH_ELEMENT);
    }

    // Promises 7 to 10

    private static void clearedEvents() {
        sentence("7: Returns the number of events that were removed");
        for (int count = 0; count <= 8; count++) {
            EventStructures x = Make.many(1, count);
            due("clear", x.clear(1), count);
            due("eventCount", x.eventCount(1), 0);
            due("clear again", x.clear(1), 0);
        }
    }

    private static void copiedEvents() {
        sentence("8: Returns the number of events");
        for (int count = 0; count <= 8; count++) {
            EventStructures x = Make.many(0, count);
            due("copy onto itself", x.copy(0, 0), count);
            due("copy", x.copy(0, 1), count);
            due("copy of the other one onto itself", x.copy(1, 1), count);
            due("copy back", x.copy(1, 0), count);
            due("eventCount", x.eventCount(1), count);
        }
    }

    private static void copyOntoFullAndEmpty() {
        sentence("8: Replaces a structure by a copy of another one");
        EventStructures x = Make.chain(0, 8);
        x.addEvent(1, 5, 9);
        due("a small one onto the full one", x.copy(1, 0), 1);
        due("eventCount", x.eventCount(0), 1);
        due("label", x.label(0, 0), 5);
        due("no event from before", x.label(0, 1), NO_SUCH_ELEMENT);
        x.addEvent(0, 0, 0);
        due("no pair from before", x.history(0, 1), 2);
        x.clear(1);
        due("the empty one", x.copy(1, 0), 0);
        due("eventCount", x.eventCount(0), 0);
    }

    private static void copyOntoItself() {
        sentence("8: to: a structure, possibly the same");
        EventStructures x = Make.chain(0, 8);
        x.addConflict(0, 6, 7);
        x.setLabel(0, 7, 5);
        due("copy", x.copy(0, 0), 8);
        due("history", x.history(0, 7), 255);
        due("areInConflict", x.areInConflict(0, 7, 7), 1);
        due("label", x.label(0, 7), 5);
        due("the other one", x.eventCount(1), 0);
    }

    private static void currentIsNotCopied() {
        sentence("8: The current configuration is not copied");
        EventStructures x = Make.many(0, 8);
        Make.occur(x, 0, 7, 0);
        due("copy", x.copy(0, 1), 8);
        due("current of the copy", x.current(1), 0);
        due("current of the source", x.current(0), 129);
        due("copy onto itself", x.copy(0, 0), 8);
        due("current", x.current(0), 0);
    }

    private static void countedEvents() {
        sentence("9: Returns 0 to 8");
        EventStructures x = new EventStructures();
        due("eventCount", x.eventCount(0), 0);
        for (int e = 0; e < 8; e++) {
            x.addEvent(0, 0, 0);
            due("eventCount", x.eventCount(0), e + 1);
        }
        x.addEvent(0, 0, 0);
        due("eventCount of the full one", x.eventCount(0), 8);
        due("eventCount of the other one", x.eventCount(1), 0);
    }

    private static void labelsOfEvents() {
        sentence("10: NO_SUCH_ELEMENT if there is no such structure or event");
        for (int count : new int[] {0, 1, 7, 8}) {
            EventStructures x = Make.many(1, count);
            for (int e : noEvents(count)) {
                due("label of " + e + " of " + count, x.label(1, e), NO_SUCH_ELEMENT);
            }
            for (int e = 0; e < count; e++) {
                due("label of " + e + " of " + count, x.label(1, e), 0);
            }
        }
    }

    // Promise 11

    private static void belowByOnePair() {
        sentence("Structures: a chain of one or more cause pairs");
        EventStructures x = Make.many(0, 8);
        due("no pair", x.isBelow(0, 0, 7), 0);
        x.addCause(0, 0, 7);
        due("one pair", x.isBelow(0, 0, 7), 1);
        due("the other way", x.isBelow(0, 7, 0), 0);
        for (int e = 1; e < 8; e++) {
            x.addCause(0, e, e - 1);
        }
        due("a cycle was refused", x.isBelow(0, 7, 6), 0);
        due("six pairs", x.isBelow(0, 6, 0), 1);
        due("seven pairs", x.isBelow(0, 6, 7), 1);
        due("back along six", x.isBelow(0, 0, 6), 0);
    }

    private static void longestChain() {
        sentence("Structures: a chain of more cause pairs");
        EventStructures up = Make.chain(0, 8);
        EventStructures down = Make.many(1, 8);
        for (int e = 7; e > 0; e--) {
            down.addCause(1, e, e - 1);
        }
        for (int e = 0; e < 8; e++) {
            for (int f = 0; f < 8; f++) {
                due("isBelow(" + e + ", " + f + ") upwards", up.isBelow(0, e, f), e < f ? 1 : 0);
                due("isBelow(" + e + ", " + f + ") downwards", down.isBelow(1, e, f), e > f ? 1 : 0);
            }
        }
    }

    private static void noEventIsBelowItself() {
        sentence("Structures: no event is ever below itself");
        EventStructures x = Make.chain(0, 8);
        for (int e = 0; e < 8; e++) {
            x.addCause(0, 7, e);
            due("isBelow", x.isBelow(0, e, e), 0);
        }
    }

    private static void comparedEventsExist() {
        sentence("11: NO_SUCH_ELEMENT if there is no such structure or event");
        EventStructures x = Make.chain(0, 8);
        for (int e : noEvents(8)) {
            due("isBelow(" + e + ", 7)", x.isBelow(0, e, 7), NO_SUCH_ELEMENT);
            due("isBelow(0, " + e + ")", x.isBelow(0, 0, e), NO_SUCH_ELEMENT);
            due("isBelow(" + e + ", " + e + ")", x.isBelow(0, e, e), NO_SUCH_ELEMENT);
        }
        due("isBelow(0, 7)", x.isBelow(0, 0, 7), 1);
        due("isBelow in the empty structure", x.isBelow(1, 0, 0), NO_SUCH_ELEMENT);
    }

    // Promise 12

    private static void conflictsAreInherited() {
        sentence("Structures: in conflict if the history of the first one and the history of the second one contain "
                + "a conflict pair, one event of the pair in each history");
        EventStructures x = Make.many(0, 8);
        for (int e = 1; e < 4; e++) {
            x.addCause(0, e - 1, e);
            x.addCause(0, 7 - (e - 1), 7 - e);
        }
        due("no pair", x.areInConflict(0, 3, 4), 0);
        x.addConflict(0, 0, 7);
        for (int e = 0; e < 4; e++) {
            for (int f = 4; f < 8; f++) {
                due("areInConflict(" + e + ", " + f + ")", x.areInConflict(0, e, f), 1);
                due("areInConflict(" + f + ", " + e + ")", x.areInConflict(0, f, e), 1);
            }
        }
        due("in one history", x.areInConflict(0, 0, 3), 0);
        due("with itself", x.areInConflict(0, 3, 3), 0);
    }

    private static void conflictGoesUpAlone() {
        sentence("Structures: one event of the pair in each history");
        EventStructures x = Make.chain(0, 3);
        x.addEvent(0, 0, 0);
        x.addConflict(0, 2, 3);
        due("of the pair", x.areInConflict(0, 2, 3), 1);
        due("of a cause of one", x.areInConflict(0, 1, 3), 0);
        due("of a cause of one", x.areInConflict(0, 0, 3), 0);
    }

    private static void impossibleEvents() {
        sentence("Structures: An event that is in conflict with itself is impossible");
        EventStructures x = Make.many(0, 5);
        x.addConflict(0, 0, 1);
        x.addCause(0, 0, 2);
        due("one of a pair in its history", x.areInConflict(0, 2, 2), 0);
        x.addCause(0, 1, 2);
        x.addCause(0, 2, 3);
        due("both of a pair in its history", x.areInConflict(0, 2, 2), 1);
        due("above an impossible event", x.areInConflict(0, 3, 3), 1);
        due("two impossible events", x.areInConflict(0, 2, 3), 1);
        due("with what it is above", x.areInConflict(0, 3, 0), 1);
        due("with what is beside it", x.areInConflict(0, 3, 4), 0);
        due("never enabled", x.enabled(0, 0), 1 | 2 | 16);
        due("never enabled", x.enabled(0, 1), 16);
        due("in no configuration", x.isConfiguration(0, 7), 0);
        due("does not occur", x.occur(0, 2), NOT_POSSIBLE);
    }

    private static void causeInConflict() {
        sentence("12: two events are in conflict, second: an event, possibly the same");
        EventStructures x = Make.many(1, 8);
        x.addCause(1, 7, 0);
        x.addConflict(1, 0, 7);
        due("with itself", x.areInConflict(1, 0, 0), 1);
        due("with its cause", x.areInConflict(1, 0, 7), 1);
        due("its cause with it", x.areInConflict(1, 7, 0), 1);
        due("its cause with itself", x.areInConflict(1, 7, 7), 0);
        due("another one with itself", x.areInConflict(1, 1, 1), 0);
    }

    private static void conflictingEventsExist() {
        sentence("12: NO_SUCH_ELEMENT if there is no such structure or event");
        EventStructures x = Make.many(0, 8);
        x.addConflict(0, 0, 7);
        for (int e : noEvents(8)) {
            due("areInConflict(" + e + ", 7)", x.areInConflict(0, e, 7), NO_SUCH_ELEMENT);
            due("areInConflict(0, " + e + ")", x.areInConflict(0, 0, e), NO_SUCH_ELEMENT);
            due("areInConflict(" + e + ", " + e + ")", x.areInConflict(0, e, e), NO_SUCH_ELEMENT);
        }
        due("areInConflict(0, 7)", x.areInConflict(0, 0, 7), 1);
        due("areInConflict in the empty structure", x.areInConflict(1, 0, 0), NO_SUCH_ELEMENT);
    }

    // Promises 13 and 14

    private static void histories() {
        sentence("Structures: The history of an event contains the event and all events below it");
        EventStructures x = Make.many(0, 8);
        for (int e = 0; e < 8; e++) {
            due("alone", x.history(0, e), 1 << e);
        }
        for (int e = 0; e < 7; e++) {
            x.addCause(0, e, 7);
        }
        due("all direct causes", x.history(0, 7), 255);
        due("what is above does not count", x.history(0, 0), 1);
        x = Make.chain(1, 8);
        for (int e = 0; e < 8; e++) {
            due("in a chain", x.history(1, e), (2 << e) - 1);
        }
    }

    private static void historiesOfEvents() {
        sentence("13: NO_SUCH_ELEMENT if there is no such structure or event");
        EventStructures x = Make.chain(0, 8);
        for (int e : noEvents(8)) {
            due("history of " + e, x.history(0, e), NO_SUCH_ELEMENT);
        }
        x.removeEvent(0, 7);
        due("history of an event that was removed", x.history(0, 7), NO_SUCH_ELEMENT);
        due("history of the last one", x.history(0, 6), 127);
        due("history in the empty structure", x.history(1, 0), NO_SUCH_ELEMENT);
    }

    private static void pairsCountOnce() {
        sentence("14: Returns the number of pairs, each pair counted once");
        for (int count = 0; count <= 8; count++) {
            due("concurrentPairs of " + count, Make.many(0, count).concurrentPairs(0), count * (count - 1) / 2);
            due("concurrentPairs of a chain of " + count, Make.chain(1, count).concurrentPairs(1), 0);
        }
        due("of a choice", Make.parsed("a+b+c+d+e+f+a+b", "0").concurrentPairs(0), 0);
        due("of chains side by side", Make.parsed("a;b;c;d|e;f;a;b", "0").concurrentPairs(0), 16);
    }

    private static void impossibleEventsAreConcurrent() {
        sentence("Details: Events that are impossible can be concurrent, too");
        EventStructures x = Make.many(0, 4);
        x.addCause(0, 0, 1);
        x.addConflict(0, 0, 1);
        x.addCause(0, 2, 3);
        x.addConflict(0, 2, 3);
        due("both impossible", x.areInConflict(0, 1, 1) + x.areInConflict(0, 3, 3), 2);
        due("concurrentPairs", x.concurrentPairs(0), 4);
        x.removeEvent(0, 2);
        due("one impossible", x.concurrentPairs(0), 2);
    }

    public static void main(String[] args) {
        newStructuresAreEmpty();
        newNetIsEmpty();
        newTextIsEmpty();
        objectsAreApart();
        eightEvents();
        fullUntilOneGoes();
        labelsOfNewEvents();
        durationsOfNewEvents();
        newEventsStandAlone();
        removedToTheLast();
        removedEventsExist();
        pairsGoWithTheirEvent();
        laterNumbersDecrease();
        pairsOfLaterEventsMove();
        causePairIsNew();
        causesExist();
        noEventCausesItself();
        noCycles();
        noCycleAnyMore();
        conflictPairIsNew();
        conflictsExist();
        noConflictPairOfOne();
        previousLabel();
        newLabels();
        labelledEventsExist();
        clearedEvents();
        copiedEvents();
        copyOntoFullAndEmpty();
        copyOntoItself();
        currentIsNotCopied();
        countedEvents();
        labelsOfEvents();
        belowByOnePair();
        longestChain();
        noEventIsBelowItself();
        comparedEventsExist();
        conflictsAreInherited();
        conflictGoesUpAlone();
        impossibleEvents();
        causeInConflict();
        conflictingEventsExist();
        histories();
        historiesOfEvents();
        pairsCountOnce();
        impossibleEventsAreConcurrent();
        Checks.finish();
    }
}
