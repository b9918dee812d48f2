/** Each sentence about configurations and behavior (promises 15 to 28) that names a boundary case, by itself. */
public final class BehaviorBoundsTest implements Codes {
    private static final String EIGHT = "a|b|c|d|e|f|a|b";

    private BehaviorBoundsTest() {
    }

    private static void sentence(String text) {
        Checks.sentence(text);
    }

    private static void due(String call, long got, long want) {
        Checks.due(call, got, want);
    }

    /** Sets that are no configuration of three events where 0 causes 1, and 1 and 2 are in conflict. */
    private static final int[] NO_CONFIGURATIONS = {2, 6, 7, 8, 9, 128, 255, 256, 257, 1 << 16, 1 << 30, -1, -2, -255,
        LOWEST, LOWEST + 1, HIGHEST};

    private static EventStructures three() {
        EventStructures x = Make.many(0, 3);
        x.addCause(0, 0, 1);
        x.addConflict(0, 1, 2);
        return x;
    }

    // Promise 15

    private static void setsOfEventsThatExist() {
        sentence("15: 0 if it is not or contains an event that does not exist");
        EventStructures x = three();
        for (int set : NO_CONFIGURATIONS) {
            due("isConfiguration(" + set + ")", x.isConfiguration(0, set), 0);
        }
        for (int set : new int[] {0, 1, 3, 4, 5}) {
            due("isConfiguration(" + set + ")", x.isConfiguration(0, set), 1);
        }
        for (int count = 0; count <= 8; count++) {
            x = Make.many(1, count);
            due("all of " + count, x.isConfiguration(1, (1 << count) - 1), 1);
            due("one more than " + count, x.isConfiguration(1, 1 << count), 0);
            due("with one more than " + count, x.isConfiguration(1, (2 << count) - 1), 0);
            due("with event 31", x.isConfiguration(1, LOWEST), 0);
            due("with event 8", x.isConfiguration(1, 256), 0);
            due("with event 30", x.isConfiguration(1, 1 << 30), 0);
        }
    }

    private static void emptySet() {
        sentence("Configurations: The empty set is a configuration");
        due("no events", new EventStructures().isConfiguration(0, 0), 1);
        due("three events", three().isConfiguration(0, 0), 1);
        due("eight events", Make.many(1, 8).isConfiguration(1, 0), 1);
        due("eight events in a chain", Make.chain(1, 8).isConfiguration(1, 0), 1);
    }

    private static void wholeHistories() {
        sentence("Configurations: contains the history of each of its events");
        EventStructures x = Make.chain(0, 8);
        for (int set = 0; set < 256; set++) {
            due("isConfiguration(" + set + ")", x.isConfiguration(0, set), (set & set + 1) == 0 ? 1 : 0);
        }
    }

    private static void wholeHistoriesDownwards() {
        sentence("Configurations: contains the history of each of its events, of the first one, too");
        EventStructures x = downwards(1, 1, 1, 1, 1, 1, 1, 1);
        for (int set = 0; set < 256; set++) {
            boolean isComplete = (set & ~(set >> 1 | 128)) == 0;
            due("isConfiguration(" + set + ")", x.isConfiguration(0, set), isComplete ? 1 : 0);
        }
    }

    private static void noTwoInConflict() {
        sentence("Configurations: no two events, different or not, are in conflict");
        EventStructures x = Make.many(0, 8);
        x.addConflict(0, 0, 7);
        due("both", x.isConfiguration(0, 129), 0);
        due("one", x.isConfiguration(0, 1), 1);
        due("the other one", x.isConfiguration(0, 128), 1);
        due("all others", x.isConfiguration(0, 126), 1);
        x.addCause(0, 0, 7);
        due("an impossible event with its history", x.isConfiguration(0, 129), 0);
        due("an impossible event alone", x.isConfiguration(0, 128), 0);
    }

    // Promises 16 to 18

    private static void leastAndMostConfigurations() {
        sentence("16: Returns 1 to 256");
        for (int count = 0; count <= 8; count++) {
            due("of " + count, Make.many(0, count).configurationCount(0), 1 << count);
            due("of a chain of " + count, Make.chain(1, count).configurationCount(1), count + 1);
        }
        due("of no events", new EventStructures().configurationCount(1), 1);
        due("of a choice of eight", Make.parsed("a+b+c+d+e+f+a+b", "0").configurationCount(0), 9);
    }

    private static void leastAndMostMaximalOnes() {
        sentence("17: Returns 1 or more");
        due("of no events", new EventStructures().maximalCount(0), 1);
        due("of eight side by side", Make.many(0, 8).maximalCount(0), 1);
        due("of a chain of eight", Make.chain(0, 8).maximalCount(0), 1);
        due("of a choice of eight", Make.parsed("a+b+c+d+e+f+a+b", "0").maximalCount(0), 8);
        due("of three choices", Make.parsed("(a+b+c)|(a+b+c)|(a+b)", "0").maximalCount(0), 18);
        EventStructures x = Make.many(0, 2);
        x.addCause(0, 0, 1);
        x.addConflict(0, 0, 1);
        due("with an impossible event", x.maximalCount(0), 1);
    }

    private static void noOtherContainsIt() {
        sentence("Configurations: maximal if no other configuration contains it");
        EventStructures x = Make.parsed("a+b;c", "0");
        due("of a+b;c", x.maximalCount(0), 2);
        due("0", x.maximalConfiguration(0, 0), 1);
        due("1", x.maximalConfiguration(0, 1), 6);
        x = Make.parsed(EIGHT, "0");
        due("all eight", x.maximalConfiguration(0, 0), 255);
    }

    private static void numbersOfMaximalOnes() {
        sentence("18: index: its number, from 0, in increasing order of the configurations as numbers");
        EventStructures x = Make.parsed("(a+b)|(c+d)|(e+f)|(a+b)", "0");
        int index = 0;
        for (int set = 0; set < 256; set++) {
            // One event of each pair.
            boolean isMaximal = ((set ^ set >> 1) & 0x55) == 0x55;
            if (isMaximal) {
                due("index " + index, x.maximalConfiguration(0, index), set);
                index++;
            }
        }
        due("maximalCount", x.maximalCount(0), index);
    }

    private static void noSuchMaximalOne() {
        sentence("18: NONE if there is no such configuration");
        EventStructures x = Make.parsed("a+b+c+d+e+f+a+b", "0");
        due("the first one", x.maximalConfiguration(0, 0), 1);
        due("the last one", x.maximalConfiguration(0, 7), 128);
        for (int index : new int[] {-1, 8, 9, 256, LOWEST, HIGHEST}) {
            due("index " + index, x.maximalConfiguration(0, index), NONE);
        }
        due("the empty structure", x.maximalConfiguration(1, 0), 0);
        due("the empty structure, one more", x.maximalConfiguration(1, 1), NONE);
        due("the empty structure, one less", x.maximalConfiguration(1, -1), NONE);
    }

    // Promise 19

    private static void enabledEvents() {
        sentence("Configurations: enabled if it is not in it and adding it gives a configuration");
        EventStructures x = three();
        int[][] want = {{0, 5}, {1, 6}, {3, 0}, {4, 1}, {5, 0}};
        for (int[] row : want) {
            due("enabled(" + row[0] + ")", x.enabled(0, row[0]), row[1]);
        }
        due("no events", x.enabled(1, 0), 0);
        x = Make.many(0, 8);
        for (int set = 0; set < 256; set++) {
            due("enabled(" + set + ") of eight", x.enabled(0, set), 255 - set);
        }
    }

    private static void enabledAtConfigurations() {
        sentence("19: NOT_POSSIBLE if set is not a configuration");
        EventStructures x = three();
        for (int set : NO_CONFIGURATIONS) {
            due("enabled(" + set + ")", x.enabled(0, set), NOT_POSSIBLE);
        }
        due("one event in the empty structure", x.enabled(1, 1), NOT_POSSIBLE);
    }

    // Promises 20 and 21

    private static void fewestAndMostSteps() {
        sentence("Configurations: A step at a configuration is a nonempty set of enabled events");
        due("no events", new EventStructures().stepCount(0, 0), 0);
        due("a maximal configuration", Make.many(0, 8).stepCount(0, 255), 0);
        due("one event", Make.many(0, 1).stepCount(0, 0), 1);
        due("eight events", Make.many(0, 8).stepCount(0, 0), 255);
        due("seven of eight", Make.many(0, 8).stepCount(0, 1), 127);
        due("a chain", Make.chain(0, 8).stepCount(0, 0), 1);
    }

    private static void stepsArePairwiseConcurrent() {
        sentence("Configurations: enabled events that are pairwise concurrent");
        due("a choice of eight", Make.parsed("a+b+c+d+e+f+a+b", "0").stepCount(0, 0), 8);
        EventStructures x = Make.many(0, 8);
        x.addConflict(0, 0, 7);
        due("one pair of eight in conflict", x.stepCount(0, 0), 191);
        due("after one of the pair", x.stepCount(0, 1), 63);
        due("three in two pairs", three().stepCount(0, 1), 2);
    }

    private static void stepsAtConfigurations() {
        sentence("20: NOT_POSSIBLE if set is not a configuration");
        EventStructures x = three();
        for (int set : NO_CONFIGURATIONS) {
            due("stepCount(" + set + ")", x.stepCount(0, set), NOT_POSSIBLE);
        }
        due("the last configuration", x.stepCount(0, 5), 0);
    }

    private static void noLargestStep() {
        sentence("21: 0 if there is no step");
        due("no events", new EventStructures().largestStep(1, 0), 0);
        due("all eight occurred", Make.many(0, 8).largestStep(0, 255), 0);
        due("a maximal configuration", three().largestStep(0, 5), 0);
        EventStructures x = Make.many(0, 2);
        x.addCause(0, 0, 1);
        x.addConflict(0, 0, 1);
        due("an impossible event is left", x.largestStep(0, 1), 0);
    }

    private static void smallestSteps() {
        sentence("21: a step at a configuration with the most events, which may be one event");
        EventStructures x = Make.many(0, 8);
        for (int e = 0; e < 8; e++) {
            due("event " + e + " is left", x.largestStep(0, 255 - (1 << e)), 1 << e);
            due("event " + e + " is left", x.stepCount(0, 255 - (1 << e)), 1);
        }
    }

    private static void highestOfSeveralSteps() {
        sentence("21: among several the one that is highest as a number");
        due("eight in conflict", Make.parsed("a+b+c+d+e+f+a+b", "0").largestStep(0, 0), 128);
        due("all eight", Make.many(0, 8).largestStep(0, 0), 255);
        EventStructures x = Make.many(0, 4);
        x.addConflict(0, 0, 3);
        x.addConflict(0, 1, 2);
        due("two of four", x.largestStep(0, 0), 12);
        x.addConflict(0, 2, 3);
        due("two of four, not both of the highest ones", x.largestStep(0, 0), 10);
    }

    private static void mostEventsGoFirst() {
        sentence("21: a step with the most events");
        due("two low ones or one high one", Make.parsed("(a|b)+c", "0").largestStep(0, 0), 3);
        due("seven low ones or the highest one", Make.parsed("(a|b|c|d|e|f|a)+b", "0").largestStep(0, 0), 127);
        due("one low one or seven high ones", Make.parsed("a+(a|b|c|d|e|f|b)", "0").largestStep(0, 0), 254);
    }

    private static void largestStepsAtConfigurations() {
        sentence("21: NOT_POSSIBLE if set is not a configuration");
        EventStructures x = three();
        for (int set : NO_CONFIGURATIONS) {
            due("largestStep(" + set + ")", x.largestStep(0, set), NOT_POSSIBLE);
        }
    }

    // Promises 22 and 23

    private static void runsOfTheEmptyOne() {
        sentence("22: 1 for the empty configuration");
        due("no events", new EventStructures().runCount(1, 0), 1);
        due("eight events", Make.many(1, 8).runCount(1, 0), 1);
    }

    private static void fewestAndMostRuns() {
        sentence("22: Returns the number of runs");
        int runs = 1;
        EventStructures x = Make.many(0, 8);
        EventStructures y = Make.chain(1, 8);
        for (int count = 1; count <= 8; count++) {
            runs *= count;
            due("of " + count + " of eight", x.runCount(0, (1 << count) - 1), runs);
            due("of " + count + " in a chain", y.runCount(1, (1 << count) - 1), 1);
        }
    }

    private static void runsOfConfigurations() {
        sentence("22: NOT_POSSIBLE if set is not a configuration");
        EventStructures x = three();
        for (int set : NO_CONFIGURATIONS) {
            due("runCount(" + set + ")", x.runCount(0, set), NOT_POSSIBLE);
        }
        due("runCount(5)", x.runCount(0, 5), 2);
    }

    private static void stepRunsOfTheEmptyOne() {
        sentence("23: 1 for the empty configuration");
        due("no events", new EventStructures().stepRunCount(1, 0), 1);
        due("eight events", Make.many(1, 8).stepRunCount(1, 0), 1);
    }

    private static void fewestAndMostStepRuns() {
        sentence("23: Returns the number of step runs");
        // In how many ways some events can be put in order, several at a time.
        int[] orders = {1, 1, 3, 13, 75, 541, 4683, 47293, 545835};
        EventStructures x = Make.many(0, 8);
        EventStructures y = Make.chain(1, 8);
        for (int count = 1; count <= 8; count++) {
            due("of " + count + " of eight", x.stepRunCount(0, (1 << count) - 1), orders[count]);
            due("of " + count + " in a chain", y.stepRunCount(1, (1 << count) - 1), 1);
        }
    }

    private static void stepRunsOfConfigurations() {
        sentence("23: NOT_POSSIBLE if set is not a configuration");
        EventStructures x = three();
        for (int set : NO_CONFIGURATIONS) {
            due("stepRunCount(" + set + ")", x.stepRunCount(0, set), NOT_POSSIBLE);
        }
        due("stepRunCount(5)", x.stepRunCount(0, 5), 3);
    }

    private static void runsAfterAChange() {
        sentence("22 and 23: the runs of a configuration of the structure as it is now");
        EventStructures x = Make.many(0, 3);
        due("three side by side", x.runCount(0, 7), 6);
        due("three side by side, by steps", x.stepRunCount(0, 7), 13);
        x.addCause(0, 0, 2);
        due("with a cause pair", x.runCount(0, 7), 3);
        due("with a cause pair, by steps", x.stepRunCount(0, 7), 5);
        x.addCause(0, 0, 1);
        due("with two cause pairs", x.runCount(0, 7), 2);
        due("with two cause pairs, by steps", x.stepRunCount(0, 7), 3);
        x.addCause(0, 1, 2);
        due("in a chain", x.runCount(0, 7), 1);
        due("in a chain, by steps", x.stepRunCount(0, 7), 1);
        x.clear(0);
        due("of no events", x.runCount(0, 0) + x.stepRunCount(0, 0), 2);
        due("of events that went", x.runCount(0, 7), NOT_POSSIBLE);
    }

    // Promises 24 and 25

    private static EventStructures durations(int... durations) {
        EventStructures x = new EventStructures();
        for (int i = 0; i < durations.length; i++) {
            due("addEvent", x.addEvent(0, 0, durations[i]), i);
        }
        return x;
    }

    private static EventStructures durationsInChain(int... durations) {
        EventStructures x = durations(durations);
        for (int i = 1; i < durations.length; i++) {
            due("addCause", x.addCause(0, i - 1, i), 1);
        }
        return x;
    }

    private static EventStructures downwards(int... durations) {
        EventStructures x = durations(durations);
        for (int i = 1; i < durations.length; i++) {
            due("addCause", x.addCause(0, i, i - 1), 1);
        }
        return x;
    }

    private static void timesOfTheEmptyOne() {
        sentence("24: the maximum, 0 for the empty configuration; 25: the sum");
        due("shortestTime of no events", new EventStructures().shortestTime(0, 0), 0);
        due("totalTime of no events", new EventStructures().totalTime(0, 0), 0);
        EventStructures x = durations(LONGEST, LONGEST);
        due("shortestTime of the empty one", x.shortestTime(0, 0), 0);
        due("totalTime of the empty one", x.totalTime(0, 0), 0);
    }

    private static void timesWithoutDuration() {
        sentence("24 and 25: events of duration 0");
        EventStructures x = durationsInChain(0, 0, 0, 0, 0, 0, 0, 0);
        due("shortestTime", x.shortestTime(0, 255), 0);
        due("totalTime", x.totalTime(0, 255), 0);
    }

    private static void lastEventCounts() {
        sentence("24: The duration of the last event counts, too");
        EventStructures x = durationsInChain(1, 20, 300);
        due("one event", x.shortestTime(0, 1), 1);
        due("two events", x.shortestTime(0, 3), 21);
        due("three events", x.shortestTime(0, 7), 321);
    }

    private static void largestOfSeveralChains() {
        sentence("24: the maximum, over all events, of the largest sum of durations along a chain");
        EventStructures x = durations(5, 1, 1, 1, 9);
        x.addCause(0, 0, 3);
        x.addCause(0, 1, 2);
        x.addCause(0, 2, 3);
        due("the longer time, not the longer chain", x.shortestTime(0, 15), 6);
        due("an event alone", x.shortestTime(0, 31), 9);
        due("events side by side", x.shortestTime(0, 3), 5);
    }

    private static void longestChains() {
        sentence("24: a chain in which each event is a direct cause of the next one, of all eight events");
        due("upwards", durationsInChain(1, 2, 4, 8, 16, 32, 64, 128).shortestTime(0, 255), 255);
        due("downwards", downwards(1, 2, 4, 8, 16, 32, 64, 128).shortestTime(0, 255), 255);
        due("without the last one", downwards(1, 2, 4, 8, 16, 32, 64, 128).shortestTime(0, 254), 254);
        EventStructures x = durations(1, 2, 4, 8, 16, 32, 64, 128);
        int[] order = {4, 0, 7, 2, 5, 1, 6, 3};
        for (int i = 1; i < 8; i++) {
            x.addCause(0, order[i - 1], order[i]);
        }
        due("to and fro", x.shortestTime(0, 255), 255);
    }

    private static void timesAfterLongerOnes() {
        sentence("24: the maximum, over all events of a configuration, and of no other one");
        EventStructures x = downwards(LONGEST, LONGEST, 5, 7);
        due("of all", x.shortestTime(0, 15), 2 * LONGEST + 12);
        due("of a part", x.shortestTime(0, 12), 12);
        due("of a smaller part", x.shortestTime(0, 8), 7);
        x.clear(0);
        x.addEvent(0, 0, 3);
        x.addEvent(0, 0, 4);
        x.addCause(0, 1, 0);
        due("of events with the same numbers", x.shortestTime(0, 3), 7);
    }

    private static void timeAtTheLimit() {
        sentence("24: OVERFLOW if the maximum is greater than 2147483647");
        EventStructures x = durationsInChain(LONGEST, LONGEST, 147483647, 0, 1);
        due("2000000000", x.shortestTime(0, 3), 2 * LONGEST);
        due("2147483647", x.shortestTime(0, 7), HIGHEST);
        due("2147483647 with an event of duration 0", x.shortestTime(0, 15), HIGHEST);
        due("2147483648", x.shortestTime(0, 31), OVERFLOW);
    }

    private static void timeFarOverTheLimit() {
        sentence("24: OVERFLOW if the maximum is greater than 2147483647, by far");
        EventStructures x = durationsInChain(LONGEST, LONGEST, LONGEST, LONGEST, LONGEST, LONGEST, LONGEST, LONGEST);
        for (int count = 1; count <= 8; count++) {
            int want = count < 3 ? count * LONGEST : OVERFLOW;
            due(count + " in a chain", x.shortestTime(0, (1 << count) - 1), want);
        }
    }

    private static void timeSideBySide() {
        sentence("24: the maximum, not the sum, over all events");
        EventStructures x = durations(LONGEST, LONGEST, LONGEST, LONGEST, LONGEST, LONGEST, LONGEST, LONGEST);
        due("eight side by side", x.shortestTime(0, 255), LONGEST);
        due("totalTime", x.totalTime(0, 255), OVERFLOW);
    }

    private static void sumAtTheLimit() {
        sentence("25: OVERFLOW if the sum is greater than 2147483647");
        EventStructures x = durations(LONGEST, LONGEST, 147483647, 0, 1);
        due("2000000000", x.totalTime(0, 3), 2 * LONGEST);
        due("2147483647", x.totalTime(0, 7), HIGHEST);
        due("2147483647 with an event of duration 0", x.totalTime(0, 15), HIGHEST);
        due("2147483648", x.totalTime(0, 23), OVERFLOW);
        due("2147483648 with an event of duration 0", x.totalTime(0, 31), OVERFLOW);
    }

    private static void sumFarOverTheLimit() {
        sentence("25: OVERFLOW if the sum is greater than 2147483647, by far");
        EventStructures x = durations(LONGEST, LONGEST, LONGEST, LONGEST, LONGEST, LONGEST, LONGEST, LONGEST);
        for (int count = 1; count <= 8; count++) {
            due(count + " events", x.totalTime(0, (1 << count) - 1), count < 3 ? count * LONGEST : OVERFLOW);
        }
    }

    private static void timesOfConfigurations() {
        sentence("24 and 25: NOT_POSSIBLE if set is not a configuration");
        EventStructures x = three();
        for (int set : NO_CONFIGURATIONS) {
            due("shortestTime(" + set + ")", x.shortestTime(0, set), NOT_POSSIBLE);
            due("totalTime(" + set + ")", x.totalTime(0, set), NOT_POSSIBLE);
        }
    }

    private static void notPossibleBeforeOverflow() {
        sentence("24 and 25: If several errors apply, the one that is listed first is returned");
        EventStructures x = durationsInChain(LONGEST, LONGEST, LONGEST, LONGEST);
        due("shortestTime without the first event", x.shortestTime(0, 14), NOT_POSSIBLE);
        due("totalTime without the first event", x.totalTime(0, 14), NOT_POSSIBLE);
        due("shortestTime with an event that is not there", x.shortestTime(0, 31), NOT_POSSIBLE);
        due("totalTime with an event that is not there", x.totalTime(0, 31), NOT_POSSIBLE);
        x.addConflict(0, 2, 3);
        due("shortestTime with a conflict", x.shortestTime(0, 15), NOT_POSSIBLE);
        due("totalTime with a conflict", x.totalTime(0, 15), NOT_POSSIBLE);
        due("shortestTime", x.shortestTime(0, 7), OVERFLOW);
        due("totalTime", x.totalTime(0, 7), OVERFLOW);
    }

    // Promises 26 to 28

    private static void occurUntilAllDid() {
        sentence("26: Returns the new current configuration");
        EventStructures x = Make.many(0, 8);
        int now = 0;
        for (int e = 7; e >= 0; e--) {
            now |= 1 << e;
            due("occur", x.occur(0, e), now);
            due("current", x.current(0), now);
        }
        due("withdraw the lowest", x.withdraw(0, 0), 254);
        due("withdraw the highest", x.withdraw(0, 7), 126);
    }

    private static void occurringEventsExist() {
        sentence("26: NO_SUCH_ELEMENT if there is no such structure or event");
        EventStructures x = Make.many(0, 8);
        for (int e : new int[] {-1, 8, 9, 31, 32, 33, LOWEST, HIGHEST}) {
            due("occur " + e, x.occur(0, e), NO_SUCH_ELEMENT);
        }
        due("occur in the empty structure", x.occur(1, 0), NO_SUCH_ELEMENT);
        due("occur 7", x.occur(0, 7), 128);
        x.removeEvent(0, 7);
        due("occur 7 of seven", x.occur(0, 7), NO_SUCH_ELEMENT);
    }

    private static void occurringEventsAreEnabled() {
        sentence("26: NOT_POSSIBLE if the event is not enabled at the current configuration");
        EventStructures x = three();
        due("its cause did not occur", x.occur(0, 1), NOT_POSSIBLE);
        due("occur 0", x.occur(0, 0), 1);
        due("it is in it", x.occur(0, 0), NOT_POSSIBLE);
        due("occur 2", x.occur(0, 2), 5);
        due("in conflict with one in it", x.occur(0, 1), NOT_POSSIBLE);
        due("current", x.current(0), 5);
        x.addCause(0, 2, 1);
        due("after a change", x.occur(0, 0), 1);
        due("after a change", x.occur(0, 2), 5);
        due("an impossible event", x.occur(0, 1), NOT_POSSIBLE);
    }

    private static void withdrawToTheLast() {
        sentence("27: Returns the new current configuration");
        EventStructures x = Make.chain(0, 8);
        Make.occur(x, 0, 0, 1, 2, 3, 4, 5, 6, 7);
        for (int e = 7; e >= 0; e--) {
            due("withdraw " + e, x.withdraw(0, e), (1 << e) - 1);
        }
        due("current", x.current(0), 0);
        due("no more", x.withdraw(0, 0), NOT_POSSIBLE);
    }

    private static void withdrawnEventsExist() {
        sentence("27: NO_SUCH_ELEMENT if there is no such structure or event");
        EventStructures x = Make.many(0, 8);
        Make.occur(x, 0, 0, 7);
        for (int e : new int[] {-1, 8, 9, 31, 32, 39, LOWEST, HIGHEST}) {
            due("withdraw " + e, x.withdraw(0, e), NO_SUCH_ELEMENT);
        }
        due("withdraw in the empty structure", x.withdraw(1, 0), NO_SUCH_ELEMENT);
        due("withdraw 7", x.withdraw(0, 7), 1);
    }

    private static void withdrawnEventsAreInIt() {
        sentence("27: NOT_POSSIBLE if the event is not in the current configuration");
        EventStructures x = Make.many(0, 8);
        due("of the empty one", x.withdraw(0, 0), NOT_POSSIBLE);
        Make.occur(x, 0, 3);
        for (int e = 0; e < 8; e++) {
            if (e != 3) {
                due("withdraw " + e, x.withdraw(0, e), NOT_POSSIBLE);
            }
        }
        due("current", x.current(0), 8);
    }

    private static void withdrawnEventsAreBelowNone() {
        sentence("27: NOT_POSSIBLE if the event is below another event that is in it");
        EventStructures x = Make.chain(0, 4);
        Make.occur(x, 0, 0, 1, 2);
        due("below by a chain", x.withdraw(0, 0), NOT_POSSIBLE);
        due("below by one pair", x.withdraw(0, 1), NOT_POSSIBLE);
        due("below one that is not in it", x.withdraw(0, 2), 3);
        due("now below none in it", x.withdraw(0, 1), 1);
        due("now below none in it", x.withdraw(0, 0), 0);
    }

    private static void currentAtFirst() {
        sentence("Current configurations: It is empty at first");
        for (int s = 0; s < 2; s++) {
            due("current", new EventStructures().current(s), 0);
            due("current of eight", Make.many(s, 8).current(s), 0);
        }
    }

    private static void eachHasItsCurrent() {
        sentence("Current configurations: Each structure has a current configuration");
        EventStructures x = Make.parsed(EIGHT, EIGHT);
        Make.occur(x, 0, 0, 1);
        Make.occur(x, 1, 7);
        due("current(0)", x.current(0), 3);
        due("current(1)", x.current(1), 128);
        due("withdraw", x.withdraw(0, 7), NOT_POSSIBLE);
        due("current(1)", x.current(1), 128);
    }

    public static void main(String[] args) {
        setsOfEventsThatExist();
        emptySet();
        wholeHistories();
        wholeHistoriesDownwards();
        noTwoInConflict();
        leastAndMostConfigurations();
        leastAndMostMaximalOnes();
        noOtherContainsIt();
        numbersOfMaximalOnes();
        noSuchMaximalOne();
        enabledEvents();
        enabledAtConfigurations();
        fewestAndMostSteps();
        stepsArePairwiseConcurrent();
        stepsAtConfigurations();
        noLargestStep();
        smallestSteps();
        highestOfSeveralSteps();
        mostEventsGoFirst();
        largestStepsAtConfigurations();
        runsOfTheEmptyOne();
        fewestAndMostRuns();
        runsOfConfigurations();
        stepRunsOfTheEmptyOne();
        fewestAndMostStepRuns();
        stepRunsOfConfigurations();
        runsAfterAChange();
        timesOfTheEmptyOne();
        timesWithoutDuration();
        lastEventCounts();
        largestOfSeveralChains();
        longestChains();
        timesAfterLongerOnes();
        timeAtTheLimit();
        timeFarOverTheLimit();
        timeSideBySide();
        sumAtTheLimit();
        sumFarOverTheLimit();
        timesOfConfigurations();
        notPossibleBeforeOverflow();
        occurUntilAllDid();
        occurringEventsExist();
        occurringEventsAreEnabled();
        withdrawToTheLast();
        withdrawnEventsExist();
        withdrawnEventsAreInIt();
        withdrawnEventsAreBelowNone();
        currentAtFirst();
        eachHasItsCurrent();
        Checks.finish();
    }
}
