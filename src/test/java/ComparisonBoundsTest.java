/** Each sentence about bisimilarity and words (promises 29 to 34) that names a boundary case, by itself. */
public final class ComparisonBoundsTest implements Codes {
    private static final String EIGHT = "a|b|c|d|e|f|a|b";
    private static final String CHAIN = "a;b;c;d;e;f;a;b";
    private static final int[] NO_KINDS = {-1, 2, 3, 256, 65536, LOWEST, LOWEST + 1, HIGHEST};

    private ComparisonBoundsTest() {
    }

    private static void sentence(String text) {
        Checks.sentence(text);
    }

    private static void due(String call, long got, long want) {
        Checks.due(call, got, want);
    }

    /** Chains of events with label 0, one in each structure. */
    private static EventStructures chains(int first, int second) {
        EventStructures x = Make.chain(0, first);
        for (int e = 0; e < second; e++) {
            due("addEvent", x.addEvent(1, 0, 1), e);
            due("addCause", e == 0 ? 1 : x.addCause(1, e - 1, e), 1);
        }
        return x;
    }

    // Promises 29 to 31

    private static void kinds() {
        sentence("29 to 31: OUT_OF_RANGE if kind is neither 0 nor 1");
        for (EventStructures x : new EventStructures[] {new EventStructures(), Make.parsed("a|b", "a;b+b;a")}) {
            for (int kind : NO_KINDS) {
                due("areBisimilar(" + kind + ")", x.areBisimilar(kind), OUT_OF_RANGE);
                due("separationRound(" + kind + ")", x.separationRound(kind), OUT_OF_RANGE);
                due("equivalenceClasses(" + kind + ")", x.equivalenceClasses(kind), OUT_OF_RANGE);
            }
        }
    }

    private static void singleEventsAndSteps() {
        sentence("29 to 31: kind: 0 by single events, 1 by steps");
        EventStructures x = Make.parsed("a|b", "a;b+b;a");
        due("areBisimilar(0)", x.areBisimilar(0), 1);
        due("areBisimilar(1)", x.areBisimilar(1), 0);
        due("separationRound(0)", x.separationRound(0), NONE);
        due("separationRound(1)", x.separationRound(1), 1);
        due("equivalenceClasses(0)", x.equivalenceClasses(0), 4);
        due("equivalenceClasses(1)", x.equivalenceClasses(1), 5);
    }

    private static void emptyStructures() {
        sentence("29 to 31: both structures without events");
        EventStructures x = new EventStructures();
        for (int kind = 0; kind < 2; kind++) {
            due("areBisimilar", x.areBisimilar(kind), 1);
            due("separationRound", x.separationRound(kind), NONE);
            due("equivalenceClasses", x.equivalenceClasses(kind), 1);
        }
    }

    private static void emptyAndNotEmpty() {
        sentence("29 to 31: one structure without events");
        for (int s = 0; s < 2; s++) {
            EventStructures x = Make.many(s, 1);
            for (int kind = 0; kind < 2; kind++) {
                due("areBisimilar", x.areBisimilar(kind), 0);
                due("separationRound", x.separationRound(kind), 1);
                due("equivalenceClasses", x.equivalenceClasses(kind), 2);
            }
        }
    }

    private static void firstAndLastRound() {
        sentence("Bisimilarity: All of them are equivalent in round 0; 30: Returns the number of the round, 1 or more");
        for (int length = 1; length <= 8; length++) {
            for (int kind = 0; kind < 2; kind++) {
                due("the first is longer", chains(length, length - 1).separationRound(kind), length);
                due("the second is longer", chains(length - 1, length).separationRound(kind), length);
                due("both are as long", chains(length, length).separationRound(kind), NONE);
            }
        }
        EventStructures x = Make.parsed(CHAIN, "a;b;c;d;e;f;a;c");
        due("other last labels", x.separationRound(0), 8);
        due("other last labels, by steps", x.separationRound(1), 8);
        x.setLabel(1, 0, 5);
        due("other first labels", x.separationRound(0), 1);
    }

    private static void conversely() {
        sentence("Bisimilarity: for each move of one of them, the other one has a move .. and conversely");
        due("the first can do more", Make.parsed("a+b", "a").areBisimilar(0), 0);
        due("the second can do more", Make.parsed("a", "a+b").areBisimilar(0), 0);
        due("the first, later", Make.parsed("a;b+a", "a").separationRound(0), 2);
        due("the second, later", Make.parsed("a", "a;b+a").separationRound(0), 2);
        due("the first, where the other one has all moves", Make.parsed("a;b+a", "a;b").separationRound(0), 2);
        due("the second, where the other one has all moves", Make.parsed("a;b", "a;b+a").separationRound(0), 2);
    }

    private static void howManyOfEachLabel() {
        sentence("Bisimilarity: By steps .. its name tells how many of its events have each label");
        EventStructures x = Make.parsed("a|a|a|a|a|a|a|a", "a|a|a|a|a|a|a|a");
        due("eight of one label", x.areBisimilar(1), 1);
        x.addCause(1, 0, 7);
        due("seven at once", x.separationRound(1), 1);
        due("by single events", x.areBisimilar(0), 1);
        x = Make.parsed("a|b", "a|a");
        due("two of one label, or one each", x.separationRound(1), 1);
        for (int label = 0; label < 5; label++) {
            String low = String.valueOf((char) ('a' + label));
            String high = String.valueOf((char) ('b' + label));
            String seven = low + ("|" + low).repeat(6);
            x = Make.parsed(seven + "|" + low, "(" + seven + ")+" + high);
            due("eight of " + low + ", or one of " + high, x.separationRound(1), 1);
        }
        x = Make.parsed("f|f", "f;f");
        due("two of the last label", x.separationRound(1), 1);
        due("two of the last label, one by one", x.separationRound(0), NONE);
    }

    private static void fewestAndMostClasses() {
        sentence("31: Returns the number of classes");
        for (int length = 0; length <= 8; length++) {
            for (int kind = 0; kind < 2; kind++) {
                due("chains of " + length, chains(length, length).equivalenceClasses(kind), length + 1);
                due("a chain beside none", chains(length, 0).equivalenceClasses(kind), length + 1);
                due("none beside a chain", chains(0, length).equivalenceClasses(kind), length + 1);
            }
        }
        EventStructures x = Make.parsed(EIGHT, EIGHT);
        due("what is left of eight", x.equivalenceClasses(0), 9 * 16);
        due("what is left of eight, by steps", x.equivalenceClasses(1), 9 * 16);
        x = Make.parsed("a|a|a|a|a|a|a|a", CHAIN);
        due("other labels, the last class alone in common", x.equivalenceClasses(0), 17);
    }

    private static void classesOfBothStructures() {
        sentence("31: into how many classes the configurations of both structures fall");
        due("one that both have", Make.parsed("a", "a").equivalenceClasses(0), 2);
        due("one that both have, one each", Make.parsed("a", "b").equivalenceClasses(0), 3);
        due("two that both have", Make.parsed("b;a", "a").equivalenceClasses(0), 3);
    }

    // Promises 32 and 33

    private static void shortestAndLongestDifference() {
        sentence("32: Returns the length of the first word that is possible in exactly one of both structures");
        for (int length = 1; length <= 8; length++) {
            due("the first is longer", chains(length, length - 1).wordDifferenceLength(), length);
            due("the second is longer", chains(length - 1, length).wordDifferenceLength(), length);
        }
        due("one in each", Make.parsed("a;b", "a;c").wordDifferenceLength(), 2);
        due("at once", Make.parsed(EIGHT, "0").wordDifferenceLength(), 1);
        due("at once", Make.parsed("0", EIGHT).wordDifferenceLength(), 1);
    }

    private static void noDifference() {
        sentence("32: NONE if the same words are possible");
        due("no events", new EventStructures().wordDifferenceLength(), NONE);
        due("chains of eight", chains(8, 8).wordDifferenceLength(), NONE);
        due("eight side by side", Make.parsed(EIGHT, EIGHT).wordDifferenceLength(), NONE);
        due("not bisimilar", Make.parsed("a;(b+c)", "a;b+a;c").wordDifferenceLength(), NONE);
        EventStructures x = Make.many(0, 2);
        x.addCause(0, 0, 1);
        x.addConflict(0, 0, 1);
        x.addEvent(1, 0, 0);
        due("an impossible event", x.wordDifferenceLength(), NONE);
    }

    private static void shortWordsGoFirst() {
        sentence("Behavior: Words are ordered by length");
        EventStructures x = Make.parsed("a;a;a;a;a;a;a", "a;a;a;a;a;a+f");
        due("a long word and a short one", x.wordDifferenceLength(), 1);
        due("its label", x.wordDifferenceLabel(0), 5);
        due("not the long one", x.wordDifferenceLabel(1), NONE);
    }

    private static void lowWordsGoFirst() {
        sentence("Behavior: words of the same length lexicographically");
        EventStructures x = Make.parsed("a;f+b;a", "a+b");
        due("length", x.wordDifferenceLength(), 2);
        due("the first label goes before the second", x.wordDifferenceLabel(0), 0);
        due("the second label", x.wordDifferenceLabel(1), 5);
        x = Make.parsed("f;e+f;b", "f;c");
        due("lowest of those in the one and in the other", x.wordDifferenceLabel(1), 1);
        x = Make.parsed("f+e+d+c+b", "a");
        due("lowest of all labels", x.wordDifferenceLabel(0), 0);
    }

    private static void positionsOfTheWord() {
        sentence("33: index: the position, from 0; NONE if there is no such position");
        EventStructures x = Make.parsed(CHAIN, "a;b;c;d;e;f;a;c");
        int[] labels = {0, 1, 2, 3, 4, 5, 0, 1};
        for (int i = 0; i < 8; i++) {
            due("position " + i, x.wordDifferenceLabel(i), labels[i]);
        }
        for (int i : new int[] {-1, 8, 9, 256, LOWEST, HIGHEST}) {
            due("position " + i, x.wordDifferenceLabel(i), NONE);
        }
        x = Make.parsed("f", "0");
        due("position 0 of one", x.wordDifferenceLabel(0), 5);
        due("position 1 of one", x.wordDifferenceLabel(1), NONE);
        due("position -1 of one", x.wordDifferenceLabel(-1), NONE);
    }

    private static void noWordNoPosition() {
        sentence("33: NONE if there is no such word");
        for (EventStructures x : new EventStructures[] {new EventStructures(), Make.parsed(CHAIN, CHAIN)}) {
            for (int i : new int[] {-1, 0, 1, 7, 8, LOWEST, HIGHEST}) {
                due("position " + i, x.wordDifferenceLabel(i), NONE);
            }
        }
    }

    private static void answersAfterAChange() {
        sentence("29 to 33: what is told of both structures is told of them as they are now");
        EventStructures x = Make.parsed("a;b", "a;b");
        int[] changed = {0, 1, 1, 0, 0, 1, 0, 1};
        int[] labels = {2, 2, 3, 3, 2, 2, 1, 1};
        for (int i = 0; i < changed.length; i++) {
            x.setLabel(changed[i], 1, labels[i]);
            int same = i % 2;
            int lowest = i == 0 || i == 6 ? 1 : 2;
            due("wordDifferenceLength", x.wordDifferenceLength(), same == 1 ? NONE : 2);
            due("wordDifferenceLabel", x.wordDifferenceLabel(1), same == 1 ? NONE : lowest);
            for (int kind = 0; kind < 2; kind++) {
                due("areBisimilar", x.areBisimilar(kind), same);
                due("separationRound", x.separationRound(kind), same == 1 ? NONE : 2);
                due("equivalenceClasses", x.equivalenceClasses(kind), same == 1 ? 3 : 5);
            }
            due("wordCount", x.wordCount(0) + x.wordCount(1), 6);
        }
        x.removeEvent(1, 1);
        due("wordDifferenceLabel", x.wordDifferenceLabel(1), 1);
        due("wordCount", x.wordCount(1), 2);
        due("separationRound", x.separationRound(1), 2);
    }

    private static void wordsThatLeadToTheSame() {
        sentence("32: the first word, though another word leads to the same configuration of one structure");
        int[] word = {1, 0, 2};
        EventStructures x = Make.parsed("(a|b);c", "a;b;c+b;a;d");
        EventStructures y = Make.parsed("a;b;c+b;a;d", "(a|b);c");
        due("length", x.wordDifferenceLength(), 3);
        due("length", y.wordDifferenceLength(), 3);
        for (int i = 0; i < 3; i++) {
            due("label " + i, x.wordDifferenceLabel(i), word[i]);
            due("label " + i, y.wordDifferenceLabel(i), word[i]);
        }
    }

    private static void labelsAfterAChange() {
        sentence("33: Returns a label of the word that wordDifferenceLength finds, without asking for its length");
        EventStructures x = Make.parsed("a;b", "a;c");
        due("position 1", x.wordDifferenceLabel(1), 1);
        x.setLabel(0, 0, 5);
        due("position 0", x.wordDifferenceLabel(0), 0);
        due("position 1", x.wordDifferenceLabel(1), NONE);
        x.copy(1, 0);
        due("no word any more", x.wordDifferenceLabel(0), NONE);
    }

    // Promise 34

    private static void emptyWord() {
        sentence("34: Returns the number of words that are possible, with the empty word");
        due("no events", new EventStructures().wordCount(0), 1);
        due("one event", Make.many(0, 1).wordCount(0), 2);
        for (int length = 0; length <= 8; length++) {
            due("a chain of " + length, Make.chain(1, length).wordCount(1), length + 1);
            due("side by side, one label, " + length, Make.many(1, length).wordCount(1), length + 1);
        }
    }

    private static void mostWords() {
        sentence("34: Returns the number of words, of eight events side by side");
        EventStructures x = Make.parsed(EIGHT, "a|b|c|d|e|f");
        due("six labels", x.wordCount(0), 28395);
        due("six events with a label each", x.wordCount(1), 1957);
    }

    private static void wordsCountOnce() {
        sentence("34: words, not runs");
        EventStructures x = Make.parsed("a+a+a+a+a+a+a+a", "a;b+a;b+a;b");
        due("eight events", x.wordCount(0), 2);
        due("three times the same", x.wordCount(1), 3);
    }

    private static void impossibleEventsHaveNoWords() {
        sentence("Behavior: the labels of enabled events that occur one after the other");
        EventStructures x = Make.events(0, 0, 1, 2);
        x.addCause(0, 0, 1);
        x.addCause(0, 1, 2);
        x.addConflict(0, 0, 1);
        due("wordCount", x.wordCount(0), 2);
        due("maximalCount", x.maximalCount(0), 1);
    }

    private static void fromTheEmptyConfiguration() {
        sentence("Behavior: from the empty configuration on");
        EventStructures x = Make.parsed("a;b", "b");
        Make.occur(x, 0, 0);
        due("wordCount", x.wordCount(0), 3);
        due("wordDifferenceLength", x.wordDifferenceLength(), 1);
        due("wordDifferenceLabel", x.wordDifferenceLabel(0), 0);
        due("areBisimilar", x.areBisimilar(0), 0);
        due("separationRound", x.separationRound(1), 1);
        due("current", x.current(0), 1);
    }

    public static void main(String[] args) {
        kinds();
        singleEventsAndSteps();
        emptyStructures();
        emptyAndNotEmpty();
        firstAndLastRound();
        conversely();
        howManyOfEachLabel();
        fewestAndMostClasses();
        classesOfBothStructures();
        shortestAndLongestDifference();
        noDifference();
        shortWordsGoFirst();
        lowWordsGoFirst();
        positionsOfTheWord();
        noWordNoPosition();
        answersAfterAChange();
        wordsThatLeadToTheSame();
        labelsAfterAChange();
        emptyWord();
        mostWords();
        wordsCountOnce();
        impossibleEventsHaveNoWords();
        fromTheEmptyConfiguration();
        Checks.finish();
    }
}
