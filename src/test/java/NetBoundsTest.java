/** Each sentence about refinement, nets and unfolding (promises 35 to 40) that names a boundary case, by itself. */
public final class NetBoundsTest implements Codes {
    private static final int[] NO_LABELS = {-1, 6, 7, 256, LOWEST, HIGHEST};

    private NetBoundsTest() {
    }

    private static void sentence(String text) {
        Checks.sentence(text);
    }

    private static void due(String call, long got, long want) {
        Checks.due(call, got, want);
    }

    // Promise 35

    private static void refinedToEight() {
        sentence("35: TOO_LARGE if there would be more than 8 events");
        for (int count = 0; count <= 8; count++) {
            int want = 2 * count <= 8 ? 2 * count : TOO_LARGE;
            EventStructures x = Make.many(0, count);
            due("all of " + count, x.refine(0, 0, 1, 2, true), want);
            due("eventCount", x.eventCount(0), want == TOO_LARGE ? count : want);
        }
        for (int count = 1; count <= 8; count++) {
            EventStructures x = Make.many(1, count);
            x.setLabel(1, count - 1, 5);
            due("one of " + count, x.refine(1, 5, 1, 2, false), count == 8 ? TOO_LARGE : count + 1);
            due("eventCount", x.eventCount(1), Math.min(8, count + 1));
        }
    }

    private static void nothingToRefine() {
        sentence("35: Replaces each event that has a certain label, of which there may be none");
        EventStructures x = Make.chain(0, 8);
        x.addConflict(0, 0, 7);
        due("refine", x.refine(0, 1, 2, 3, true), 8);
        due("history", x.history(0, 7), 255);
        due("areInConflict", x.areInConflict(0, 7, 7), 1);
        due("label", x.label(0, 7), 0);
        due("no events", x.refine(1, 0, 0, 0, true), 0);
    }

    private static void labelsOfRefinement() {
        sentence("35: label, first, second: 0 to 5; OUT_OF_RANGE if a label is out of range");
        EventStructures x = Make.events(0, 0, 5);
        for (int label : NO_LABELS) {
            due("label " + label, x.refine(0, label, 0, 0, false), OUT_OF_RANGE);
            due("first " + label, x.refine(0, 0, label, 0, false), OUT_OF_RANGE);
            due("second " + label, x.refine(0, 0, 0, label, true), OUT_OF_RANGE);
            due("of no event", x.refine(0, 3, 0, label, true), OUT_OF_RANGE);
        }
        due("5 becomes 0 and 5", x.refine(0, 5, 0, 5, true), 3);
        due("0 becomes 5 and 0", x.refine(0, 0, 5, 0, true), 5);
        int[] labels = {5, 0, 5, 0, 5};
        for (int e = 0; e < 5; e++) {
            due("label", x.label(0, e), labels[e]);
        }
    }

    private static void newEventsAreNotRefined() {
        sentence("35: Replaces each event by two events, the new ones not again");
        EventStructures x = Make.events(0, 2, 2);
        due("refine to the same label", x.refine(0, 2, 2, 2, false), 4);
        due("again", x.refine(0, 2, 2, 2, false), 8);
        due("once more", x.refine(0, 2, 2, 2, false), TOO_LARGE);
    }

    private static void numbersAreShifted() {
        sentence("35: They take the number of the old event and the next number; later events are shifted");
        for (int place = 0; place < 7; place++) {
            EventStructures x = new EventStructures();
            for (int e = 0; e < 7; e++) {
                x.addEvent(0, e == place ? 5 : 0, 100 + e);
            }
            due("refine", x.refine(0, 5, 1, 2, true), 8);
            for (int e = 0; e < 8; e++) {
                due("label " + e, x.label(0, e), e == place ? 1 : e == place + 1 ? 2 : 0);
                int duration = 100 + (e <= place ? e : e - 1);
                int before = e == place + 1 ? duration : 0;
                due("duration " + e, x.totalTime(0, x.history(0, e)), before + duration);
            }
        }
    }

    private static void bothHaveTheDuration() {
        sentence("35: both have the duration of the old event");
        EventStructures x = new EventStructures();
        x.addEvent(0, 0, LONGEST);
        x.addEvent(1, 0, 0);
        due("refine", x.refine(0, 0, 0, 0, true), 2);
        due("the longest duration", x.shortestTime(0, 3), 2 * LONGEST);
        due("refine", x.refine(1, 0, 0, 0, false), 2);
        due("no duration", x.totalTime(1, 3), 0);
        due("refine again", x.refine(0, 0, 0, 0, true), 4);
        due("the sum is too large", x.totalTime(0, 15), OVERFLOW);
    }

    private static void pairsOfOneOldEvent() {
        sentence("35: Each cause pair and each conflict pair of the old event becomes one pair for each new event");
        EventStructures x = Make.events(0, 0, 5, 0, 0);
        x.addCause(0, 0, 1);
        x.addCause(0, 1, 2);
        x.addConflict(0, 1, 3);
        due("refine", x.refine(0, 5, 1, 2, false), 5);
        for (int e = 1; e <= 2; e++) {
            due("a cause", x.addCause(0, 0, e), 0);
            due("an effect", x.addCause(0, e, 3), 0);
            due("a conflict", x.addConflict(0, e, 4), 0);
        }
        due("no new pair of the others", x.addCause(0, 0, 3), 1);
        due("no new pair of the others", x.addConflict(0, 3, 4), 1);
    }

    private static void fourPairs() {
        sentence("Details: If both events of a cause pair or a conflict pair are replaced, there are four pairs");
        for (int sequence = 0; sequence < 2; sequence++) {
            EventStructures x = Make.many(0, 4);
            x.addCause(0, 0, 1);
            x.addConflict(0, 2, 3);
            due("refine", x.refine(0, 0, 0, 1, sequence == 1), 8);
            for (int e = 0; e < 2; e++) {
                for (int f = 2; f < 4; f++) {
                    due("cause pair", x.addCause(0, e, f), 0);
                    due("conflict pair", x.addConflict(0, e + 4, f + 4), 0);
                    due("no conflict pair", x.addConflict(0, e, f), 1);
                }
            }
            due("no other conflict pair", x.addConflict(0, 1, 4), 1);
        }
    }

    private static void pairsOfTheFirstEvent() {
        sentence("35: Each cause pair becomes one pair for each of the new events, along falling numbers, too");
        EventStructures x = Make.events(0, 0, 5, 0);
        x.addCause(0, 2, 1);
        x.addCause(0, 1, 0);
        due("refine", x.refine(0, 5, 1, 2, true), 4);
        int[] histories = {15, 8 + 2, 8 + 4 + 2, 8};
        for (int e = 0; e < 4; e++) {
            due("history", x.history(0, e), histories[e]);
        }
        due("refine the first", x.refine(0, 0, 0, 0, false), 6);
        due("history", x.history(0, 0), 1 + 4 + 8 + 16 + 32);
        due("history", x.history(0, 1), 2 + 4 + 8 + 16 + 32);
    }

    private static void inSequenceOrNot() {
        sentence("35: If inSequence is true, the first new event is a direct cause of the second one; "
                + "otherwise the two new events are in no pair with each other");
        EventStructures x = Make.many(0, 4);
        due("in sequence", x.refine(0, 0, 0, 0, true), 8);
        for (int e = 0; e < 8; e++) {
            due("history", x.history(0, e), e % 2 == 0 ? 1 << e : 3 << (e - 1));
        }
        due("a direct cause", x.addCause(0, 6, 7), 0);
        x = Make.many(0, 4);
        due("not in sequence", x.refine(0, 0, 0, 0, false), 8);
        due("all concurrent", x.concurrentPairs(0), 28);
        due("no cause pair", x.addCause(0, 1, 0), 1);
        due("no conflict pair", x.addConflict(0, 6, 7), 1);
    }

    // Promises 36 and 37

    private static void clearedPlaces() {
        sentence("36: Returns the number of places that were removed");
        for (int count = 0; count <= 6; count++) {
            EventStructures x = new EventStructures();
            Make.places(x, count, 63);
            due("clearNet", x.clearNet(), count);
            due("clearNet again", x.clearNet(), 0);
            due("addPlace", x.addPlace(true), 0);
        }
    }

    private static void clearedTransitions() {
        sentence("36: Removes all places and transitions");
        EventStructures x = new EventStructures();
        Make.places(x, 6, 63);
        for (int t = 0; t < 6; t++) {
            x.addTransition(1 << t, 0, t);
        }
        due("six transitions", x.unfold(0), 6);
        due("clearNet", x.clearNet(), 6);
        due("no transition", x.unfold(0), 0);
        due("no place", x.addTransition(1, 0, 0), NO_SUCH_ELEMENT);
        due("a place", x.addPlace(false), 0);
        due("no marking", x.unfold(0), 0);
        due("no marking", x.conditionCount(), 0);
        for (int t = 0; t < 6; t++) {
            due("addTransition", x.addTransition(1, 0, t), t);
        }
        due("full again", x.addTransition(1, 0, 0), FULL);
    }

    private static void sixPlaces() {
        sentence("37: Returns the number of the place; FULL if there are 6 places");
        EventStructures x = new EventStructures();
        for (int p = 0; p < 6; p++) {
            due("addPlace", x.addPlace(p == 5), p);
        }
        due("the seventh, marked", x.addPlace(true), FULL);
        due("the seventh, not marked", x.addPlace(false), FULL);
        due("the last place can be used", x.addTransition(32, 32, 0), 0);
        due("there is no other one", x.addTransition(64, 0, 0), NO_SUCH_ELEMENT);
        due("clearNet", x.clearNet(), 6);
    }

    private static void markedPlaces() {
        sentence("37: marked: whether the place belongs to the initial marking");
        for (int marking = 0; marking < 64; marking++) {
            EventStructures x = new EventStructures();
            Make.places(x, 6, marking);
            due("unfold", x.unfold(0), 0);
            due("conditions of marking " + marking, x.conditionCount(), Integer.bitCount(marking));
        }
    }

    // Promise 38

    private static void placesOfTransitions() {
        sentence("38: NO_SUCH_ELEMENT if a set contains a place that does not exist");
        for (int count = 0; count <= 6; count++) {
            EventStructures x = new EventStructures();
            Make.places(x, count, 0);
            int all = (1 << count) - 1;
            for (int set : new int[] {all + 1, 2 * all + 1, 64, 1 << 30, LOWEST, LOWEST + all, -1, HIGHEST}) {
                due("inputs " + set + " of " + count, x.addTransition(set, 0, 0), NO_SUCH_ELEMENT);
                due("outputs " + set + " of " + count, x.addTransition(all, set, 0), NO_SUCH_ELEMENT);
            }
            due("all of " + count, x.addTransition(all, all, 0), count == 0 ? OUT_OF_RANGE : 0);
        }
    }

    private static void noInputs() {
        sentence("38: inputs: a nonempty set of places; OUT_OF_RANGE if inputs is empty");
        EventStructures x = new EventStructures();
        due("no places", x.addTransition(0, 0, 0), OUT_OF_RANGE);
        x.addPlace(true);
        due("no inputs", x.addTransition(0, 1, 0), OUT_OF_RANGE);
        due("no inputs, no outputs", x.addTransition(0, 0, 0), OUT_OF_RANGE);
        due("one input", x.addTransition(1, 0, 0), 0);
    }

    private static void noOutputs() {
        sentence("38: outputs: a set of places");
        EventStructures x = new EventStructures();
        Make.places(x, 6, 1);
        due("no outputs", x.addTransition(1, 0, 0), 0);
        due("all places", x.addTransition(1, 62, 1), 1);
        due("unfold", x.unfold(0), 2);
        due("conditionCount", x.conditionCount(), 6);
    }

    private static void labelsOfTransitions() {
        sentence("38: label: the label, 0 to 5");
        EventStructures x = new EventStructures();
        x.addPlace(true);
        for (int label : NO_LABELS) {
            due("label " + label, x.addTransition(1, 0, label), OUT_OF_RANGE);
        }
        for (int label = 0; label <= 5; label++) {
            due("label " + label, x.addTransition(1, 0, label), label);
        }
        due("unfold", x.unfold(0), 6);
        for (int e = 0; e < 6; e++) {
            due("label", x.label(0, e), e);
        }
    }

    private static void sixTransitions() {
        sentence("38: FULL if there are 6 transitions");
        EventStructures x = new EventStructures();
        Make.places(x, 2, 3);
        for (int t = 0; t < 6; t++) {
            due("addTransition", x.addTransition(1, 0, 0), t);
        }
        due("the seventh", x.addTransition(2, 0, 0), FULL);
        due("unfold", x.unfold(0), 6);
        due("places can be added", x.addPlace(false), 2);
    }

    // Promise 39

    private static void emptyNets() {
        sentence("39: Returns the number of events, 0 for a net in which nothing can happen");
        EventStructures x = Make.many(0, 8);
        due("no places", x.unfold(0), 0);
        due("eventCount", x.eventCount(0), 0);
        Make.places(x, 6, 62);
        due("no transitions", x.unfold(0), 0);
        due("conditionCount", x.conditionCount(), 5);
        x.addTransition(1, 62, 0);
        x.addTransition(3, 0, 0);
        due("an input place is not marked", x.unfold(0), 0);
        due("conditionCount", x.conditionCount(), 5);
    }

    private static void eightEventsOrNine() {
        sentence("39: TOO_LARGE if the unfolding has more than 8 events");
        // Two tokens come to place 2 and go on by three transitions each.
        EventStructures x = new EventStructures();
        Make.places(x, 6, 3);
        x.addTransition(1, 4, 0);
        x.addTransition(2, 4, 1);
        x.addTransition(4, 0, 2);
        x.addTransition(4, 0, 3);
        due("six", x.unfold(0), 6);
        x.addTransition(4, 0, 4);
        due("eight", x.unfold(0), 8);
        due("eventCount", x.eventCount(0), 8);
        due("conditionCount", x.conditionCount(), 4);
        x.addTransition(1, 0, 5);
        due("nine", x.unfold(1), TOO_LARGE);
        due("nine onto the eight", x.unfold(0), TOO_LARGE);
        due("eventCount", x.eventCount(0), 8);
        due("eventCount of the other one", x.eventCount(1), 0);
    }

    private static void chainOfEightOrNine() {
        sentence("39: TOO_LARGE if the unfolding has more than 8 events, one after the other");
        // One token goes round, and the only one in place 5 lets it begin once more.
        EventStructures x = new EventStructures();
        Make.places(x, 6, 16 + 32);
        x.addTransition(1, 2, 0);
        x.addTransition(2, 4, 1);
        x.addTransition(4, 8, 2);
        x.addTransition(8 + 32, 1, 3);
        x.addTransition(16, 1, 4);
        due("eight", x.unfold(0), 8);
        due("conditionCount", x.conditionCount(), 10);
        int[] labels = {4, 0, 1, 2, 3, 0, 1, 2};
        for (int e = 0; e < 8; e++) {
            due("label", x.label(0, e), labels[e]);
            due("history", x.history(0, e), (2 << e) - 1);
        }
        x.clearNet();
        Make.places(x, 6, 1 + 32);
        x.addTransition(1, 2, 0);
        x.addTransition(2, 4, 1);
        x.addTransition(4, 8, 2);
        x.addTransition(8, 16, 3);
        x.addTransition(16 + 32, 1, 4);
        due("nine", x.unfold(0), TOO_LARGE);
        due("conditionCount", x.conditionCount(), 10);
    }

    private static void endlessUnfolding() {
        sentence("39: TOO_LARGE if the unfolding has more than 8 events, without end");
        EventStructures x = new EventStructures();
        x.addPlace(true);
        x.addTransition(1, 1, 0);
        due("one loop", x.unfold(0), TOO_LARGE);
        x.addPlace(false);
        x.clearNet();
        Make.places(x, 6, 63);
        for (int t = 0; t < 6; t++) {
            x.addTransition(63, 63, t);
        }
        due("all places, all transitions", x.unfold(1), TOO_LARGE);
        due("eventCount", x.eventCount(1), 0);
        due("conditionCount", x.conditionCount(), 0);
    }

    private static void initialConditions() {
        sentence("Unfolding: for each place of the initial marking there is one condition without a producer; these "
                + "are numbered from 0 in the order of their places");
        EventStructures x = new EventStructures();
        Make.places(x, 6, 32 + 8 + 1);
        x.addTransition(32, 4, 0);
        x.addTransition(8, 4, 1);
        x.addTransition(1, 4, 2);
        x.addTransition(4, 0, 3);
        due("unfold", x.unfold(0), 6);
        due("conditionCount", x.conditionCount(), 6);
        int[] labels = {0, 1, 2, 3, 3, 3};
        int[] histories = {1, 2, 4, 9, 18, 36};
        for (int e = 0; e < 6; e++) {
            due("label", x.label(0, e), labels[e]);
            due("history", x.history(0, e), histories[e]);
        }
        due("no producer, no cause", x.history(0, 1), 2);
    }

    private static void oneConditionForEachInput() {
        sentence("Unfolding: a set of conditions that it takes, one for each input place of the transition");
        EventStructures x = new EventStructures();
        Make.places(x, 6, 63);
        x.addTransition(63, 0, 0);
        for (int p = 0; p < 5; p++) {
            x.addTransition(1 << p, 0, 1);
        }
        due("unfold", x.unfold(0), 6);
        for (int e = 1; e < 6; e++) {
            due("in conflict with the one that takes all", x.areInConflict(0, 0, e), 1);
            due("in conflict with no other", x.areInConflict(0, e, e % 5 + 1), 0);
        }
        due("maximalCount", x.maximalCount(0), 2);
    }

    private static void directCauses() {
        sentence("Unfolding: a direct cause of another one if it produced a condition that the other one takes");
        EventStructures x = new EventStructures();
        Make.places(x, 5, 1);
        x.addTransition(1, 2 + 4, 0);
        x.addTransition(2, 8, 1);
        x.addTransition(8, 16, 2);
        x.addTransition(16 + 4, 0, 3);
        due("unfold", x.unfold(0), 4);
        due("0 and 1", x.addCause(0, 0, 1), 0);
        due("1 and 2", x.addCause(0, 1, 2), 0);
        due("2 and 3", x.addCause(0, 2, 3), 0);
        due("0 and 3", x.addCause(0, 0, 3), 0);
        due("0 and 2 are no pair", x.addCause(0, 0, 2), 1);
        due("1 and 3 are no pair", x.addCause(0, 1, 3), 1);
    }

    private static void directConflicts() {
        sentence("Unfolding: Two different events that take a common condition are in direct conflict");
        EventStructures x = new EventStructures();
        Make.places(x, 4, 3);
        x.addTransition(1, 4, 0);
        x.addTransition(3, 0, 1);
        x.addTransition(2, 0, 2);
        x.addTransition(4, 0, 3);
        due("unfold", x.unfold(0), 4);
        for (int e = 0; e < 4; e++) {
            due("with itself", x.areInConflict(0, e, e), 0);
        }
        // Adding a pair that is there would mend half of one, so each is asked for in one order only.
        due("0 and 1", x.addConflict(0, 0, 1), 0);
        due("2 and 1", x.addConflict(0, 2, 1), 0);
        due("0 and 2 are no pair", x.addConflict(0, 0, 2), 1);
        due("1 and 3 are no pair", x.addConflict(0, 1, 3), 1);
        due("2 and 3 are no pair", x.addConflict(0, 2, 3), 1);
    }

    private static void conflictsBetweenAll() {
        sentence("Unfolding: Two different events that take a common condition are in direct conflict, each with each");
        EventStructures x = new EventStructures();
        x.addPlace(true);
        for (int t = 0; t < 6; t++) {
            x.addTransition(1, 0, t);
        }
        due("unfold", x.unfold(0), 6);
        for (int e = 0; e < 6; e++) {
            for (int f = 0; f < 6; f++) {
                due(e + " and " + f, x.areInConflict(0, e, f), e == f ? 0 : 1);
            }
        }
        due("configurationCount", x.configurationCount(0), 7);
    }

    private static void producersInConflict() {
        sentence("Unfolding: can hold together if the producers with their histories are a configuration");
        EventStructures x = new EventStructures();
        Make.places(x, 5, 1);
        x.addTransition(1, 2, 0);
        x.addTransition(1, 4, 1);
        x.addTransition(6, 0, 2);
        due("of events in conflict", x.unfold(0), 2);
        x.addTransition(2, 8, 3);
        x.addTransition(8 + 4, 0, 4);
        due("of events with histories in conflict", x.unfold(0), 3);
    }

    private static void conditionsThatAreTaken() {
        sentence("Unfolding: and no event of that configuration takes one of the conditions");
        EventStructures x = new EventStructures();
        Make.places(x, 4, 1);
        x.addTransition(1, 2, 0);
        x.addTransition(3, 0, 1);
        due("with what was taken for it", x.unfold(0), 1);
        x.addTransition(2, 4, 2);
        x.addTransition(5, 0, 3);
        due("with what was taken two events before", x.unfold(0), 2);
        x.addTransition(6, 0, 4);
        due("with what was taken between", x.unfold(0), 2);
    }

    private static void lowestTransitionFirst() {
        sentence("Unfolding: the one with the lowest transition is created next");
        // Transition 0 can follow at once, so it goes before the second event of transition 1.
        EventStructures x = new EventStructures();
        Make.places(x, 5, 3);
        x.addTransition(4, 8, 0);
        x.addTransition(1, 4, 1);
        x.addTransition(2, 4, 2);
        due("unfold", x.unfold(0), 4);
        int[] labels = {1, 0, 2, 0};
        int[] histories = {1, 3, 4, 12};
        for (int e = 0; e < 4; e++) {
            due("label", x.label(0, e), labels[e]);
            due("history", x.history(0, e), histories[e]);
        }
    }

    private static void smallestRowFirst() {
        sentence("Unfolding: among several, the one whose row of condition numbers, in the order of the input "
                + "places, is lexicographically smallest");
        // Conditions 0 and 1 are marked in places 1 and 2; 4 and 5 come to them. Rows: 0 1, 0 5, 4 1, 4 5.
        EventStructures x = new EventStructures();
        Make.places(x, 5, 2 + 4 + 8 + 16);
        x.addTransition(8, 2, 0);
        x.addTransition(16, 4, 1);
        x.addTransition(6, 0, 2);
        due("unfold", x.unfold(0), 6);
        int[] histories = {1, 2, 4, 8 + 2, 16 + 1, 32 + 1 + 2};
        for (int e = 0; e < 6; e++) {
            due("history", x.history(0, e), histories[e]);
        }
        due("a common first condition", x.areInConflict(0, 2, 3), 1);
        due("a common second condition", x.areInConflict(0, 2, 4), 1);
        due("no common condition", x.areInConflict(0, 2, 5), 0);
    }

    private static void orderOfPlacesNotOfConditions() {
        sentence("Unfolding: row of condition numbers, in the order of the input places");
        // Place 0 gets the conditions 3 and 4, place 1 has 0 and gets 5: the rows 3 0, 3 5, 4 0, 4 5.
        EventStructures x = new EventStructures();
        Make.places(x, 4, 2 + 4 + 8);
        x.addTransition(4, 1, 0);
        x.addTransition(8, 3, 1);
        x.addTransition(3, 0, 2);
        due("unfold", x.unfold(0), 6);
        due("conditionCount", x.conditionCount(), 6);
        int[] histories = {1, 2, 4 + 1, 8 + 1 + 2, 16 + 2, 32 + 2};
        for (int e = 0; e < 6; e++) {
            due("history", x.history(0, e), histories[e]);
        }
        due("a common condition of place 1", x.areInConflict(0, 2, 4), 1);
        due("a common condition of place 0", x.areInConflict(0, 2, 3), 1);
        due("no common condition", x.areInConflict(0, 2, 5), 0);
    }

    private static void newConditions() {
        sentence("Unfolding: It produces one new condition for each output place of the transition, numbered in the "
                + "order of their places");
        EventStructures x = new EventStructures();
        Make.places(x, 6, 1);
        x.addTransition(1, 62, 5);
        for (int p = 5; p > 0; p--) {
            x.addTransition(1 << p, 0, p - 1);
        }
        due("unfold", x.unfold(0), 6);
        due("conditionCount", x.conditionCount(), 6);
        for (int e = 1; e < 6; e++) {
            due("label", x.label(0, e), 5 - e);
            due("history", x.history(0, e), 1 + (1 << e));
        }
        due("all side by side", x.concurrentPairs(0), 10);
    }

    private static void manyConditions() {
        sentence("Unfolding: six places, and as many conditions as eight events make");
        EventStructures x = new EventStructures();
        Make.places(x, 6, 63);
        x.addTransition(48, 47, 0);
        x.addTransition(33, 46, 1);
        due("unfold", x.unfold(0), 8);
        due("conditionCount", x.conditionCount(), 40);
        int[] histories = {1, 2, 4 + 2, 8 + 1, 16 + 1, 32 + 17, 64 + 9, 128 + 6};
        int[] labels = {0, 1, 0, 1, 1, 1, 1, 1};
        for (int e = 0; e < 8; e++) {
            due("history", x.history(0, e), histories[e]);
            due("label", x.label(0, e), labels[e]);
        }
    }

    private static void durationOne() {
        sentence("39: Each event has the label of its transition and the duration 1");
        EventStructures x = Make.many(0, 8);
        Make.places(x, 6, 63);
        for (int t = 0; t < 6; t++) {
            x.addTransition(1 << t, 0, 5 - t);
        }
        due("unfold", x.unfold(0), 6);
        for (int e = 0; e < 6; e++) {
            due("label", x.label(0, e), 5 - e);
            due("duration", x.totalTime(0, 1 << e), 1);
        }
    }

    private static void netStays() {
        sentence("39: Replaces a structure, not the net");
        EventStructures x = new EventStructures();
        Make.places(x, 2, 1);
        x.addTransition(1, 2, 4);
        due("unfold", x.unfold(0), 1);
        due("again", x.unfold(0), 1);
        due("into the other one", x.unfold(1), 1);
        due("areBisimilar", x.areBisimilar(1), 1);
        due("addPlace", x.addPlace(true), 2);
        due("addTransition", x.addTransition(4, 0, 0), 1);
        due("after a change", x.unfold(0), 2);
        due("the other one", x.eventCount(1), 1);
    }

    // Promise 40

    private static void noConditions() {
        sentence("40: Returns the number of conditions, 0 if there was no such call");
        EventStructures x = new EventStructures();
        due("conditionCount", x.conditionCount(), 0);
        Make.places(x, 6, 63);
        due("without a call of unfold", x.conditionCount(), 0);
        due("unfold of no structure", x.unfold(2), NO_SUCH_ELEMENT);
        due("without a successful call", x.conditionCount(), 0);
        x.addTransition(1, 1, 0);
        due("unfold", x.unfold(0), TOO_LARGE);
        due("without a successful call", x.conditionCount(), 0);
    }

    private static void latestSuccessfulCall() {
        sentence("40: the unfolding that the latest successful call of unfold made");
        EventStructures x = new EventStructures();
        Make.places(x, 3, 7);
        due("unfold", x.unfold(0), 0);
        due("three", x.conditionCount(), 3);
        x.addPlace(true);
        due("still three", x.conditionCount(), 3);
        due("unfold into the other one", x.unfold(1), 0);
        due("four", x.conditionCount(), 4);
        x.addTransition(1, 1, 0);
        due("unfold", x.unfold(0), TOO_LARGE);
        due("still four", x.conditionCount(), 4);
        due("unfold of no structure", x.unfold(-1), NO_SUCH_ELEMENT);
        due("still four", x.conditionCount(), 4);
        x.clearNet();
        due("unfold", x.unfold(0), 0);
        due("none", x.conditionCount(), 0);
    }

    private static void conditionsStay() {
        sentence("Details: The number of conditions stays until the next successful call of unfold, whatever else is "
                + "done");
        EventStructures x = new EventStructures();
        Make.places(x, 2, 1);
        x.save();
        x.addTransition(1, 2, 0);
        due("unfold", x.unfold(0), 1);
        x.clear(0);
        due("after clear", x.conditionCount(), 2);
        due("after clearNet", x.clearNet() * 10 + x.conditionCount(), 22);
        due("after restore", x.restore() * 10 + x.conditionCount(), 2);
        due("after save", x.save() * 10 + x.conditionCount(), 2);
        due("after parse", Make.parse(x, 0, "a|b|c") * 10 + x.conditionCount(), 32);
        due("after a parse that fails", Make.parse(x, 0, "a|b|c|") * 10 + x.conditionCount(), -1060 + 2);
        due("after copy", x.copy(1, 0) * 10 + x.conditionCount(), 2);
        due("after addPlace", x.addPlace(true) * 10 + x.conditionCount(), 22);
        due("after unfold", x.unfold(1) * 10 + x.conditionCount(), 2);
    }

    public static void main(String[] args) {
        refinedToEight();
        nothingToRefine();
        labelsOfRefinement();
        newEventsAreNotRefined();
        numbersAreShifted();
        bothHaveTheDuration();
        pairsOfOneOldEvent();
        fourPairs();
        pairsOfTheFirstEvent();
        inSequenceOrNot();
        clearedPlaces();
        clearedTransitions();
        sixPlaces();
        markedPlaces();
        placesOfTransitions();
        noInputs();
        noOutputs();
        labelsOfTransitions();
        sixTransitions();
        emptyNets();
        eightEventsOrNine();
        chainOfEightOrNine();
        endlessUnfolding();
        initialConditions();
        oneConditionForEachInput();
        directCauses();
        directConflicts();
        conflictsBetweenAll();
        producersInConflict();
        conditionsThatAreTaken();
        lowestTransitionFirst();
        smallestRowFirst();
        orderOfPlacesNotOfConditions();
        newConditions();
        manyConditions();
        durationOne();
        netStays();
        noConditions();
        latestSuccessfulCall();
        conditionsStay();
        Checks.finish();
    }
}
