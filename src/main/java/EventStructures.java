import java.util.Arrays;

/**
 * A workbench for labelled prime event structures: configurations, steps, bisimilarity, unfolding of Petri nets,
 * action refinement, and a small process language.
 *
 * <p>A set of events or of places is an int whose bit e says whether element e is in the set.
 */
public final class EventStructures {
    public static final int NO_SUCH_ELEMENT = -1;
    public static final int OUT_OF_RANGE = -2;
    public static final int FULL = -3;
    public static final int CYCLE = -4;
    public static final int NOT_POSSIBLE = -5;
    public static final int TOO_LARGE = -6;
    public static final int NONE = -7;
    public static final int OVERFLOW = -8;

    private static final int MOST_EVENTS = 8;
    private static final int SETS = 256;
    private static final int LABELS = 6;
    private static final int LONGEST_DURATION = 1000000000;
    private static final long LARGEST_SUM = 2147483647L;
    private static final int MOST_PLACES = 6;
    private static final int MOST_TRANSITIONS = 6;
    private static final int MOST_CONDITIONS = MOST_PLACES + MOST_EVENTS * MOST_PLACES;
    private static final int LONGEST_TEXT = 40;
    private static final int FIRST_CHARACTER = 32;
    private static final int LAST_CHARACTER = 126;
    private static final int SYNTAX_ERROR = -100;

    private final Structure first;
    private final Structure second;
    private final Structure savedFirst;
    private final Structure savedSecond;
    private final Structure refined;
    private final Space firstSpace;
    private final Space secondSpace;
    private final Bisimulation bisimulation;
    private final Words words;
    private final Net net;
    private final Net savedNet;
    private final Unfolding unfolding;
    private final Language language;
    private boolean hasSaved;
    private int conditions;

    public EventStructures() {
        Space one = new Space(new Structure());
        Space other = new Space(new Structure());
        first = one.events;
        second = other.events;
        savedFirst = new Structure();
        savedSecond = new Structure();
        refined = new Structure();
        firstSpace = one;
        secondSpace = other;
        bisimulation = new Bisimulation(one, other);
        words = new Words(one, other);
        net = new Net();
        savedNet = new Net();
        unfolding = new Unfolding();
        language = new Language();
        hasSaved = false;
        conditions = 0;
    }

    // Structures

    public int addEvent(int structure, int label, int duration) {
        Structure target = structureOf(structure);
        if (target == null) {
            return NO_SUCH_ELEMENT;
        }
        if (!isLabel(label) || duration < 0 || duration > LONGEST_DURATION) {
            return OUT_OF_RANGE;
        }
        return target.add(label, duration);
    }

    public int removeEvent(int structure, int event) {
        Structure target = structureOf(structure);
        if (target == null || !target.has(event)) {
            return NO_SUCH_ELEMENT;
        }
        target.drop(event);
        return target.count;
    }

    public int addCause(int structure, int cause, int effect) {
        Structure target = structureOf(structure);
        if (target == null || !target.has(cause) || !target.has(effect)) {
            return NO_SUCH_ELEMENT;
        }
        if (contains(target.past(cause), effect)) {
            return CYCLE;
        }
        return target.join(target.causes, cause, effect);
    }

    public int addConflict(int structure, int first, int second) {
        Structure target = structureOf(structure);
        if (target == null || !target.has(first) || !target.has(second)) {
            return NO_SUCH_ELEMENT;
        }
        if (first == second) {
            return OUT_OF_RANGE;
        }
        target.join(target.conflicts, first, second);
        return target.join(target.conflicts, second, first);
    }

    public int setLabel(int structure, int event, int label) {
        Structure target = structureOf(structure);
        if (target == null || !target.has(event)) {
            return NO_SUCH_ELEMENT;
        }
        if (!isLabel(label)) {
            return OUT_OF_RANGE;
        }
        return target.relabel(event, label);
    }

    public int clear(int structure) {
        Structure target = structureOf(structure);
        if (target == null) {
            return NO_SUCH_ELEMENT;
        }
        int removed = target.count;
        target.empty();
        return removed;
    }

    public int copy(int from, int to) {
        Structure source = structureOf(from);
        Structure target = structureOf(to);
        if (source == null || target == null) {
            return NO_SUCH_ELEMENT;
        }
        target.become(source);
        return target.count;
    }

    public int eventCount(int structure) {
        Structure target = structureOf(structure);
        return target == null ? NO_SUCH_ELEMENT : target.count;
    }

    public int label(int structure, int event) {
        Structure target = structureOf(structure);
        if (target == null || !target.has(event)) {
            return NO_SUCH_ELEMENT;
        }
        return target.labels[event];
    }

    public int isBelow(int structure, int first, int second) {
        Space space = spaceOf(structure);
        if (space == null || !space.events.has(first) || !space.events.has(second)) {
            return NO_SUCH_ELEMENT;
        }
        return first != second && contains(space.pasts[second], first) ? 1 : 0;
    }

    public int areInConflict(int structure, int first, int second) {
        Space space = spaceOf(structure);
        if (space == null || !space.events.has(first) || !space.events.has(second)) {
            return NO_SUCH_ELEMENT;
        }
        return contains(space.clashes[first], second) ? 1 : 0;
    }

    public int history(int structure, int event) {
        Space space = spaceOf(structure);
        if (space == null || !space.events.has(event)) {
            return NO_SUCH_ELEMENT;
        }
        return space.pasts[event];
    }

    public int concurrentPairs(int structure) {
        Space space = spaceOf(structure);
        return space == null ? NO_SUCH_ELEMENT : space.countConcurrentPairs();
    }

    // Configurations and behavior

    public int isConfiguration(int structure, int set) {
        Space space = spaceOf(structure);
        if (space == null) {
            return NO_SUCH_ELEMENT;
        }
        return space.holds(set) ? 1 : 0;
    }

    public int configurationCount(int structure) {
        Space space = spaceOf(structure);
        return space == null ? NO_SUCH_ELEMENT : space.countConfigurations();
    }

    public int maximalCount(int structure) {
        Space space = spaceOf(structure);
        return space == null ? NO_SUCH_ELEMENT : space.countMaximal();
    }

    public int maximalConfiguration(int structure, int index) {
        Space space = spaceOf(structure);
        return space == null ? NO_SUCH_ELEMENT : space.findMaximal(index);
    }

    public int enabled(int structure, int set) {
        Space space = spaceOf(structure);
        if (space == null) {
            return NO_SUCH_ELEMENT;
        }
        return space.holds(set) ? space.opens[set] : NOT_POSSIBLE;
    }

    public int stepCount(int structure, int set) {
        Space space = spaceOf(structure);
        if (space == null) {
            return NO_SUCH_ELEMENT;
        }
        return space.holds(set) ? space.countSteps(set) : NOT_POSSIBLE;
    }

    public int largestStep(int structure, int set) {
        Space space = spaceOf(structure);
        if (space == null) {
            return NO_SUCH_ELEMENT;
        }
        return space.holds(set) ? space.findLargestStep(set) : NOT_POSSIBLE;
    }

    public int runCount(int structure, int set) {
        return countWays(structure, set, false);
    }

    public int stepRunCount(int structure, int set) {
        return countWays(structure, set, true);
    }

    public int shortestTime(int structure, int set) {
        Space space = spaceOf(structure);
        if (space == null) {
            return NO_SUCH_ELEMENT;
        }
        return space.holds(set) ? asTime(space.longestChain(set)) : NOT_POSSIBLE;
    }

    public int totalTime(int structure, int set) {
        Space space = spaceOf(structure);
        if (space == null) {
            return NO_SUCH_ELEMENT;
        }
        return space.holds(set) ? asTime(space.sumOfDurations(set)) : NOT_POSSIBLE;
    }

    public int occur(int structure, int event) {
        Space space = spaceOf(structure);
        if (space == null || !space.events.has(event)) {
            return NO_SUCH_ELEMENT;
        }
        if (!contains(space.opensAt(space.events.now), event)) {
            return NOT_POSSIBLE;
        }
        space.events.now |= 1 << event;
        return space.events.now;
    }

    public int withdraw(int structure, int event) {
        Space space = spaceOf(structure);
        if (space == null || !space.events.has(event)) {
            return NO_SUCH_ELEMENT;
        }
        int rest = space.events.now & ~(1 << event);
        // What is left is a configuration unless the event is below one of those that stay.
        if (!contains(space.events.now, event) || !space.holds(rest)) {
            return NOT_POSSIBLE;
        }
        space.events.now = rest;
        return rest;
    }

    public int current(int structure) {
        Structure target = structureOf(structure);
        return target == null ? NO_SUCH_ELEMENT : target.now;
    }

    // Comparing both structures

    public int areBisimilar(int kind) {
        if (!isKind(kind)) {
            return OUT_OF_RANGE;
        }
        return bisimulation.roundOfSeparation(kind) == 0 ? 1 : 0;
    }

    public int separationRound(int kind) {
        if (!isKind(kind)) {
            return OUT_OF_RANGE;
        }
        int round = bisimulation.roundOfSeparation(kind);
        return round == 0 ? NONE : round;
    }

    public int equivalenceClasses(int kind) {
        if (!isKind(kind)) {
            return OUT_OF_RANGE;
        }
        return bisimulation.countClasses(kind);
    }

    public int wordDifferenceLength() {
        int length = words.lengthOfDifference();
        return length == 0 ? NONE : length;
    }

    public int wordDifferenceLabel(int index) {
        if (index < 0 || index >= words.lengthOfDifference()) {
            return NONE;
        }
        return words.labelOfDifference(index);
    }

    public int wordCount(int structure) {
        if (structureOf(structure) == null) {
            return NO_SUCH_ELEMENT;
        }
        return words.countWords(structure);
    }

    // Refinement

    public int refine(int structure, int label, int first, int second, boolean inSequence) {
        Structure target = structureOf(structure);
        if (target == null) {
            return NO_SUCH_ELEMENT;
        }
        if (!isLabel(label) || !isLabel(first) || !isLabel(second)) {
            return OUT_OF_RANGE;
        }
        if (!refined.becomeRefinement(target, label, first, second)) {
            return TOO_LARGE;
        }
        if (inSequence) {
            refined.orderTwins();
        }
        target.become(refined);
        return target.count;
    }

    // The net

    public int clearNet() {
        int removed = net.places;
        net.empty();
        return removed;
    }

    public int addPlace(boolean marked) {
        return net.putPlace(marked);
    }

    public int addTransition(int inputs, int outputs, int label) {
        if (!net.hasPlaces(inputs) || !net.hasPlaces(outputs)) {
            return NO_SUCH_ELEMENT;
        }
        if (inputs == 0 || !isLabel(label)) {
            return OUT_OF_RANGE;
        }
        return net.putTransition(inputs, outputs, label);
    }

    public int unfold(int structure) {
        Structure target = structureOf(structure);
        if (target == null) {
            return NO_SUCH_ELEMENT;
        }
        if (!unfolding.build(net)) {
            return TOO_LARGE;
        }
        target.become(unfolding.events);
        conditions = unfolding.conditions;
        return target.count;
    }

    public int conditionCount() {
        return conditions;
    }

    // The process language

    public int append(int character) {
        if (character < FIRST_CHARACTER || character > LAST_CHARACTER) {
            return OUT_OF_RANGE;
        }
        return language.put(character);
    }

    public int parse(int structure) {
        Structure target = structureOf(structure);
        int error = language.errorPosition();
        boolean fits = target != null && error < 0 && language.evaluate();
        language.empty();
        if (target == null) {
            return NO_SUCH_ELEMENT;
        }
        if (error >= 0) {
            return SYNTAX_ERROR - error;
        }
        if (!fits) {
            return TOO_LARGE;
        }
        target.become(language.built);
        return target.count;
    }

    // Saving

    public int save() {
        savedFirst.becomeWithCurrent(first);
        savedSecond.becomeWithCurrent(second);
        savedNet.become(net);
        hasSaved = true;
        return first.count + second.count;
    }

    public int restore() {
        if (!hasSaved) {
            return NONE;
        }
        first.becomeWithCurrent(savedFirst);
        second.becomeWithCurrent(savedSecond);
        net.become(savedNet);
        return first.count + second.count;
    }

    private Structure structureOf(int number) {
        return number == 0 ? first : number == 1 ? second : null;
    }

    private Space spaceOf(int number) {
        Space space = number == 0 ? firstSpace : number == 1 ? secondSpace : null;
        if (space != null) {
            space.refresh();
        }
        return space;
    }

    private int countWays(int structure, int set, boolean bySteps) {
        Space space = spaceOf(structure);
        if (space == null) {
            return NO_SUCH_ELEMENT;
        }
        return space.holds(set) ? space.countWays(set, bySteps) : NOT_POSSIBLE;
    }

    private static boolean isLabel(int label) {
        return label >= 0 && label < LABELS;
    }

    private static boolean isKind(int kind) {
        return kind == 0 || kind == 1;
    }

    private static boolean contains(int set, int element) {
        return (set >> element & 1) != 0;
    }

    private static int asTime(long sum) {
        return sum > LARGEST_SUM ? OVERFLOW : (int) sum;
    }

    /** Events with their cause pairs and conflict pairs, and the current configuration. */
    private static final class Structure {
        final int[] labels = new int[MOST_EVENTS];
        final int[] durations = new int[MOST_EVENTS];
        /** For each event the set of its direct causes. */
        final int[] causes = new int[MOST_EVENTS];
        /** For each event the set of those in direct conflict with it. */
        final int[] conflicts = new int[MOST_EVENTS];
        private final int[] origins = new int[MOST_EVENTS];
        int count = 0;
        int now = 0;
        /** Grows by every change, so that others can tell whether what they derived still holds. */
        int version = 0;

        boolean has(int event) {
            return event >= 0 && event < count;
        }

        private void noteChange() {
            now = 0;
            version++;
        }

        int add(int label, int duration) {
            if (count >= MOST_EVENTS) {
                return FULL;
            }
            labels[count] = label;
            durations[count] = duration;
            causes[count] = 0;
            conflicts[count] = 0;
            count++;
            noteChange();
            return count - 1;
        }

        void drop(int event) {
            for (int e = event; e + 1 < count; e++) {
                labels[e] = labels[e + 1];
                durations[e] = durations[e + 1];
                causes[e] = causes[e + 1];
                conflicts[e] = conflicts[e + 1];
            }
            count--;
            for (int e = 0; e < count; e++) {
                causes[e] = closeGap(causes[e], event);
                conflicts[e] = closeGap(conflicts[e], event);
            }
            noteChange();
        }

        private static int closeGap(int set, int event) {
            int lower = set & ((1 << event) - 1);
            return lower | (set >> (event + 1)) << event;
        }

        /** Puts one event into the row's set of another one; answers 1 if it was not there. */
        int join(int[] row, int member, int owner) {
            int isNew = contains(row[owner], member) ? 0 : 1;
            row[owner] |= 1 << member;
            noteChange();
            return isNew;
        }

        int relabel(int event, int label) {
            int previous = labels[event];
            labels[event] = label;
            noteChange();
            return previous;
        }

        void empty() {
            count = 0;
            noteChange();
        }

        void become(Structure other) {
            count = other.count;
            for (int e = 0; e < MOST_EVENTS; e++) {
                labels[e] = other.labels[e];
                durations[e] = other.durations[e];
                causes[e] = other.causes[e];
                conflicts[e] = other.conflicts[e];
            }
            noteChange();
        }

        void becomeWithCurrent(Structure other) {
            become(other);
            now = other.now;
        }

        /** The event with all events below it. */
        int past(int event) {
            int past = 1 << event;
            // A chain has at most as many links as there are events.
            for (int round = 0; round < count; round++) {
                for (int e = 0; e < count; e++) {
                    past |= contains(past, e) ? causes[e] : 0;
                }
            }
            return past;
        }

        /**
         * Whether a set is a configuration. The direct pairs suffice: a set with all direct causes contains the
         * histories, and so every conflict between its events goes back to a conflict pair inside the set.
         */
        boolean holds(int set) {
            if (set < 0 || set >> count != 0) {
                return false;
            }
            for (int e = 0; e < count; e++) {
                if (contains(set, e) && ((causes[e] & ~set) != 0 || (conflicts[e] & set) != 0)) {
                    return false;
                }
            }
            return true;
        }

        /** Becomes another structure with two events for each one of a label; answers whether there is room. */
        boolean becomeRefinement(Structure old, int label, int firstLabel, int secondLabel) {
            empty();
            for (int e = 0; e < old.count; e++) {
                boolean twice = old.labels[e] == label;
                if (!addFor(old, e, twice ? firstLabel : old.labels[e]) || twice && !addFor(old, e, secondLabel)) {
                    return false;
                }
            }
            for (int e = 0; e < count; e++) {
                causes[e] = spread(old.causes[origins[e]]);
                conflicts[e] = spread(old.conflicts[origins[e]]);
            }
            return true;
        }

        private boolean addFor(Structure old, int origin, int label) {
            int event = add(label, old.durations[origin]);
            if (event < 0) {
                return false;
            }
            origins[event] = origin;
            return true;
        }

        private int spread(int set) {
            int result = 0;
            for (int e = 0; e < count; e++) {
                result |= contains(set, origins[e]) ? 1 << e : 0;
            }
            return result;
        }

        /** Makes the first of the two events that came from one the cause of the other. */
        void orderTwins() {
            for (int e = 1; e < count; e++) {
                if (origins[e] == origins[e - 1]) {
                    causes[e] |= 1 << (e - 1);
                }
            }
        }
    }

    /** What follows from a structure: histories, conflicts, configurations and the events enabled at them. */
    private static final class Space {
        final Structure events;
        final int[] pasts = new int[MOST_EVENTS];
        /** For each event the set of those in conflict with it. */
        final int[] clashes = new int[MOST_EVENTS];
        final boolean[] configurations = new boolean[SETS];
        /** For each configuration the set of the enabled events. */
        final int[] opens = new int[SETS];
        private final int[] ways = new int[SETS];
        private final long[] chains = new long[MOST_EVENTS];
        private int version = -1;

        Space(Structure events) {
            this.events = events;
        }

        void refresh() {
            if (version == events.version) {
                return;
            }
            version = events.version;
            for (int e = 0; e < events.count; e++) {
                pasts[e] = events.past(e);
            }
            for (int e = 0; e < events.count; e++) {
                clashes[e] = findClashes(pasts[e]);
            }
            for (int set = 0; set < SETS; set++) {
                configurations[set] = events.holds(set);
            }
            for (int set = 0; set < SETS; set++) {
                opens[set] = configurations[set] ? findOpen(set) : 0;
            }
        }

        private int findClashes(int past) {
            int enemies = 0;
            for (int e = 0; e < events.count; e++) {
                enemies |= contains(past, e) ? events.conflicts[e] : 0;
            }
            int found = 0;
            for (int e = 0; e < events.count; e++) {
                found |= (pasts[e] & enemies) != 0 ? 1 << e : 0;
            }
            return found;
        }

        private int findOpen(int set) {
            int open = 0;
            for (int e = 0; e < events.count; e++) {
                open |= !contains(set, e) && configurations[set | 1 << e] ? 1 << e : 0;
            }
            return open;
        }

        boolean holds(int set) {
            return set >= 0 && set < SETS && configurations[set];
        }

        int opensAt(int set) {
            return holds(set) ? opens[set] : 0;
        }

        int countConcurrentPairs() {
            int pairs = 0;
            for (int e = 0; e < events.count; e++) {
                for (int other = 0; other < e; other++) {
                    boolean ordered = contains(pasts[e], other) || contains(pasts[other], e);
                    pairs += ordered || contains(clashes[e], other) ? 0 : 1;
                }
            }
            return pairs;
        }

        int countConfigurations() {
            int found = 0;
            for (int set = 0; set < SETS; set++) {
                found += configurations[set] ? 1 : 0;
            }
            return found;
        }

        private boolean isMaximal(int set) {
            return configurations[set] && opens[set] == 0;
        }

        int countMaximal() {
            int found = 0;
            for (int set = 0; set < SETS; set++) {
                found += isMaximal(set) ? 1 : 0;
            }
            return found;
        }

        int findMaximal(int index) {
            int seen = 0;
            for (int set = 0; set < SETS; set++) {
                if (isMaximal(set)) {
                    if (seen == index) {
                        return set;
                    }
                    seen++;
                }
            }
            return NONE;
        }

        /** Enabled events are never ordered, so they are a step exactly if they lead to a configuration. */
        boolean isStep(int set, int step) {
            return step != 0 && (step & ~opensAt(set)) == 0 && holds(set | step);
        }

        int countSteps(int set) {
            int open = opensAt(set);
            int steps = 0;
            for (int step = open; step > 0; step = (step - 1) & open) {
                steps += isStep(set, step) ? 1 : 0;
            }
            return steps;
        }

        int findLargestStep(int set) {
            int open = opensAt(set);
            int largest = 0;
            // Going down, so that the highest one of a size comes first.
            for (int step = open; step > 0; step = (step - 1) & open) {
                if (Integer.bitCount(step) > Integer.bitCount(largest) && isStep(set, step)) {
                    largest = step;
                }
            }
            return largest;
        }

        /** In how many ways single events, or steps, lead from the empty configuration to a configuration. */
        int countWays(int set, boolean bySteps) {
            ways[0] = 1;
            for (int part = 1; part <= set && part < SETS; part++) {
                if ((part & ~set) == 0 && configurations[part]) {
                    ways[part] = sumOfWays(part, bySteps);
                }
            }
            return holds(set) ? ways[set] : 0;
        }

        private int sumOfWays(int set, boolean bySteps) {
            int sum = 0;
            for (int step = set; step > 0; step = (step - 1) & set) {
                if ((bySteps || Integer.bitCount(step) == 1) && isStep(set & ~step, step)) {
                    sum += ways[set & ~step];
                }
            }
            return sum;
        }

        long sumOfDurations(int set) {
            long sum = 0;
            for (int e = 0; e < events.count; e++) {
                sum += contains(set, e) ? events.durations[e] : 0;
            }
            return sum;
        }

        /** The largest sum of durations along a chain of direct causes in a configuration. */
        long longestChain(int set) {
            Arrays.fill(chains, 0L);
            long longest = 0;
            // Each round settles the chains that are one event longer.
            for (int round = 0; round < events.count; round++) {
                for (int e = 0; e < events.count; e++) {
                    if (contains(set, e)) {
                        chains[e] = longestBefore(e) + events.durations[e];
                        longest = Math.max(longest, chains[e]);
                    }
                }
            }
            return longest;
        }

        private long longestBefore(int event) {
            long longest = 0;
            for (int e = 0; e < events.count; e++) {
                longest = contains(events.causes[event], e) ? Math.max(longest, chains[e]) : longest;
            }
            return longest;
        }
    }

    /**
     * The rounds of equivalence over the configurations of both structures. Configuration c of structure s has the
     * number s * SETS + c. In each round the moves of a configuration, as a sorted row of name and class pairs,
     * tell its next class.
     */
    private static final class Bisimulation {
        private static final int STATES = 2 * SETS;
        /** Both structures together have at most 2 * 3^8 pairs of a configuration and a set of events outside it. */
        private static final int MOST_MOVES = 13122;
        /** A run has at most 8 events, so nothing is told apart after round 9. */
        private static final int LAST_ROUND = MOST_EVENTS + 1;
        /** The name of a step is a number whose digits to the base 9 say how many events have each label. */
        private static final int[] WEIGHTS = {1, 9, 81, 729, 6561, 59049};

        private final Space[] spaces = new Space[2];
        private final int[] names = new int[STATES];
        private int[] classes = new int[STATES];
        private int[] nextClasses = new int[STATES];
        private final int[] moves = new int[SETS];
        private int moveCount = 0;
        /** The rows of moves of the classes of this round, one behind the other. */
        private final int[] rows = new int[MOST_MOVES];
        private final int[] rowEnds = new int[STATES + 1];
        private final int[] formerClasses = new int[STATES];
        private final int[] separations = new int[2];
        private final int[] classCounts = new int[2];
        private final int[] firstVersions = {-1, -1};
        private final int[] secondVersions = {-1, -1};

        Bisimulation(Space first, Space second) {
            spaces[0] = first;
            spaces[1] = second;
        }

        /** The first round in which the empty configurations are told apart, 0 if there is none. */
        int roundOfSeparation(int kind) {
            settle(kind);
            return separations[kind];
        }

        int countClasses(int kind) {
            settle(kind);
            return classCounts[kind];
        }

        private void settle(int kind) {
            int firstVersion = spaces[0].events.version;
            int secondVersion = spaces[1].events.version;
            if (firstVersions[kind] == firstVersion && secondVersions[kind] == secondVersion) {
                return;
            }
            firstVersions[kind] = firstVersion;
            secondVersions[kind] = secondVersion;
            for (int side = 0; side < 2; side++) {
                spaces[side].refresh();
                nameSets(side);
            }
            runRounds(kind);
        }

        private void nameSets(int side) {
            Structure events = spaces[side].events;
            int base = side * SETS;
            names[base] = 0;
            for (int e = 0; e < events.count; e++) {
                int weight = WEIGHTS[events.labels[e]];
                for (int rest = 0; rest < 1 << e; rest++) {
                    names[base + (1 << e) + rest] = names[base + rest] + weight;
                }
            }
        }

        private void runRounds(int kind) {
            Arrays.fill(classes, 0);
            separations[kind] = 0;
            classCounts[kind] = 1;
            for (int round = 1; round <= LAST_ROUND; round++) {
                int found = splitClasses(kind == 1);
                if (separations[kind] == 0 && classes[0] != classes[SETS]) {
                    separations[kind] = round;
                }
                if (found == classCounts[kind]) {
                    return;
                }
                classCounts[kind] = found;
            }
        }

        /** Goes from one round to the next one; answers the new number of classes. */
        private int splitClasses(boolean bySteps) {
            int found = 0;
            rowEnds[0] = 0;
            for (int state = 0; state < STATES; state++) {
                if (spaces[state / SETS].configurations[state % SETS]) {
                    gatherMoves(state, bySteps);
                    int match = findClass(classes[state], found);
                    if (match == found) {
                        openClass(found, classes[state]);
                        found++;
                    }
                    nextClasses[state] = match;
                }
            }
            int[] former = classes;
            classes = nextClasses;
            nextClasses = former;
            return found;
        }

        private void gatherMoves(int state, boolean bySteps) {
            Space space = spaces[state / SETS];
            int base = state / SETS * SETS;
            int set = state % SETS;
            int open = space.opens[set];
            moveCount = 0;
            for (int step = open; step > 0; step = (step - 1) & open) {
                if ((bySteps || Integer.bitCount(step) == 1) && space.configurations[set | step]) {
                    insertMove(names[base + step] * STATES + classes[base + (set | step)]);
                }
            }
        }

        /** Keeps the moves in increasing order and each one once, since only which there are counts. */
        private void insertMove(int move) {
            int low = 0;
            int high = moveCount;
            while (low < high) {
                int middle = (low + high) / 2;
                if (moves[middle] < move) {
                    low = middle + 1;
                } else {
                    high = middle;
                }
            }
            if (low < moveCount && moves[low] == move || moveCount >= moves.length) {
                return;
            }
            for (int i = moveCount; i > low; i--) {
                moves[i] = moves[i - 1];
            }
            moves[low] = move;
            moveCount++;
        }

        /** The class among those found in this round that has the former class and the moves at hand, or a new one. */
        private int findClass(int formerClass, int found) {
            for (int candidate = 0; candidate < found; candidate++) {
                if (formerClasses[candidate] == formerClass && hasMoves(candidate)) {
                    return candidate;
                }
            }
            return found;
        }

        private boolean hasMoves(int candidate) {
            int start = rowEnds[candidate];
            if (rowEnds[candidate + 1] - start != moveCount) {
                return false;
            }
            for (int i = 0; i < moveCount; i++) {
                if (rows[start + i] != moves[i]) {
                    return false;
                }
            }
            return true;
        }

        private void openClass(int number, int formerClass) {
            int end = rowEnds[number];
            for (int i = 0; i < moveCount && end < MOST_MOVES; i++) {
                rows[end] = moves[i];
                end++;
            }
            rowEnds[number + 1] = end;
            formerClasses[number] = formerClass;
        }
    }

    /**
     * The words of the structures. A word is followed by the list of all configurations that it can lead to; what
     * can come after it depends on this list alone, so what was found for a list is kept for the next word that
     * leads to it.
     */
    private static final class Words {
        private static final int DEPTHS = MOST_EVENTS + 1;
        /** The events that a word lets occur are as many as its labels, and at most 70 sets of 8 have one size. */
        private static final int LONGEST_LIST = 70;
        private static final int PARTS = SETS / 64;
        private static final int SLOTS = 512;
        private static final int SLOT_BITS = 9;
        private static final long MIXER = 0x9E3779B97F4A7C15L;

        private final Space[] spaces = new Space[2];
        /** For each side and each length of the word at hand the configurations that it leads to. */
        private final int[][] lists = new int[2 * DEPTHS][LONGEST_LIST];
        private final int[] sizes = new int[2 * DEPTHS];
        private final int[] carriers = new int[2 * LABELS];
        private final int[] marks = new int[SETS];
        private int mark = 0;
        /** For each length the lists of both sides as bits. */
        private final long[] keys = new long[DEPTHS * 2 * PARTS];
        private final long[] slotKeys = new long[SLOTS * 2 * PARTS];
        private final int[] slotSearches = new int[SLOTS];
        private final int[] slotValues = new int[SLOTS];
        private int search = 0;
        private final int[] word = new int[MOST_EVENTS];
        private final int[] difference = new int[MOST_EVENTS];
        private int shortest = 0;
        private final int[] counts = new int[2];
        private final int[] countVersions = {-1, -1};
        private final int[] differenceVersions = {-1, -1};

        Words(Space first, Space second) {
            spaces[0] = first;
            spaces[1] = second;
        }

        int countWords(int side) {
            if (countVersions[side] != spaces[side].events.version) {
                countVersions[side] = spaces[side].events.version;
                begin(side == 0, side == 1);
                counts[side] = countFrom(this, side, 0);
            }
            return counts[side];
        }

        /** The length of the first word that is possible on one side only, 0 if there is none. */
        int lengthOfDifference() {
            int firstVersion = spaces[0].events.version;
            int secondVersion = spaces[1].events.version;
            if (differenceVersions[0] != firstVersion || differenceVersions[1] != secondVersion) {
                differenceVersions[0] = firstVersion;
                differenceVersions[1] = secondVersion;
                begin(true, true);
                shortest = MOST_EVENTS + 1;
                seekDifference(this, 0);
            }
            return shortest > MOST_EVENTS ? 0 : shortest;
        }

        int labelOfDifference(int index) {
            return index >= 0 && index < MOST_EVENTS ? difference[index] : NONE;
        }

        /** Starts a search from the empty word on the sides that take part. */
        private void begin(boolean withFirst, boolean withSecond) {
            search++;
            Arrays.fill(sizes, 0);
            sizes[0] = withFirst ? 1 : 0;
            sizes[DEPTHS] = withSecond ? 1 : 0;
            lists[0][0] = 0;
            lists[DEPTHS][0] = 0;
            Arrays.fill(carriers, 0);
            for (int side = 0; side < 2; side++) {
                Structure events = spaces[side].events;
                spaces[side].refresh();
                for (int e = 0; e < events.count; e++) {
                    carriers[side * LABELS + events.labels[e]] |= 1 << e;
                }
            }
        }

        /** Puts the configurations that a label leads to into the next list; answers whether there are any. */
        private boolean advance(int side, int depth, int label) {
            int from = side * DEPTHS + depth;
            int carrier = carriers[side * LABELS + label];
            int[] next = lists[from + 1];
            int size = 0;
            mark++;
            for (int i = 0; i < sizes[from]; i++) {
                int set = lists[from][i];
                int open = spaces[side].opens[set] & carrier;
                for (int e = 0; e < MOST_EVENTS && open >> e != 0; e++) {
                    int target = set | 1 << e;
                    if (contains(open, e) && marks[target] != mark && size < LONGEST_LIST) {
                        marks[target] = mark;
                        next[size] = target;
                        size++;
                    }
                }
            }
            sizes[from + 1] = size;
            return size > 0;
        }

        /** How many words go on from the list at hand, with the empty one. */
        private static int countFrom(Words words, int side, int depth) {
            if (depth >= MOST_EVENTS) {
                return 1;
            }
            int slot = words.findSlot(depth);
            if (words.isKept(slot, depth)) {
                return words.slotValues[slot];
            }
            int count = 1;
            for (int label = 0; label < LABELS; label++) {
                if (words.advance(side, depth, label)) {
                    count += countFrom(words, side, depth + 1);
                }
            }
            words.keep(slot, depth, count);
            return count;
        }

        /**
         * Looks for words shorter than those found so far that go on from the lists at hand on one side only. The
         * words come in lexicographic order, so the first one of a length stays, and lists that were met before
         * can be left out: they were met behind an earlier word of the same length.
         */
        private static void seekDifference(Words words, int depth) {
            if (depth >= MOST_EVENTS || depth + 1 >= words.shortest) {
                return;
            }
            int slot = words.findSlot(depth);
            if (words.isKept(slot, depth)) {
                return;
            }
            words.keep(slot, depth, 0);
            for (int label = 0; label < LABELS && depth + 1 < words.shortest; label++) {
                boolean onFirst = words.advance(0, depth, label);
                boolean onSecond = words.advance(1, depth, label);
                words.word[depth] = label;
                if (onFirst != onSecond) {
                    words.keepDifference(depth + 1);
                } else if (onFirst) {
                    seekDifference(words, depth + 1);
                }
            }
        }

        private void keepDifference(int length) {
            shortest = length;
            for (int i = 0; i < length && i < MOST_EVENTS; i++) {
                difference[i] = word[i];
            }
        }

        /** Writes down the key of the lists at hand and answers where it would be kept. */
        private int findSlot(int depth) {
            int base = depth * 2 * PARTS;
            for (int part = 0; part < 2 * PARTS; part++) {
                keys[base + part] = 0;
            }
            for (int side = 0; side < 2; side++) {
                int list = side * DEPTHS + depth;
                for (int i = 0; i < sizes[list]; i++) {
                    int set = lists[list][i];
                    keys[base + side * PARTS + set / 64] |= 1L << (set % 64);
                }
            }
            long hash = 0;
            for (int part = 0; part < 2 * PARTS; part++) {
                hash = (hash ^ keys[base + part]) * MIXER;
                hash ^= hash >>> 32;
            }
            return (int) (hash * MIXER >>> (64 - SLOT_BITS));
        }

        private boolean isKept(int slot, int depth) {
            if (slotSearches[slot] != search) {
                return false;
            }
            for (int part = 0; part < 2 * PARTS; part++) {
                if (slotKeys[slot * 2 * PARTS + part] != keys[depth * 2 * PARTS + part]) {
                    return false;
                }
            }
            return true;
        }

        private void keep(int slot, int depth, int value) {
            slotSearches[slot] = search;
            slotValues[slot] = value;
            for (int part = 0; part < 2 * PARTS; part++) {
                slotKeys[slot * 2 * PARTS + part] = keys[depth * 2 * PARTS + part];
            }
        }
    }

    /** Places, some of them marked at first, and transitions. */
    private static final class Net {
        int places = 0;
        int marked = 0;
        int transitions = 0;
        final int[] inputs = new int[MOST_TRANSITIONS];
        final int[] outputs = new int[MOST_TRANSITIONS];
        final int[] labels = new int[MOST_TRANSITIONS];

        void empty() {
            places = 0;
            marked = 0;
            transitions = 0;
        }

        boolean hasPlaces(int set) {
            return set >= 0 && set >> places == 0;
        }

        int putPlace(boolean isMarked) {
            if (places >= MOST_PLACES) {
                return FULL;
            }
            marked |= isMarked ? 1 << places : 0;
            places++;
            return places - 1;
        }

        int putTransition(int inputSet, int outputSet, int label) {
            if (transitions >= MOST_TRANSITIONS) {
                return FULL;
            }
            inputs[transitions] = inputSet;
            outputs[transitions] = outputSet;
            labels[transitions] = label;
            transitions++;
            return transitions - 1;
        }

        void become(Net other) {
            places = other.places;
            marked = other.marked;
            transitions = other.transitions;
            for (int t = 0; t < MOST_TRANSITIONS; t++) {
                inputs[t] = other.inputs[t];
                outputs[t] = other.outputs[t];
                labels[t] = other.labels[t];
            }
        }
    }

    /** The unfolding of a net, made event by event. A set of conditions is a long. */
    private static final class Unfolding {
        private static final int NOBODY = -1;

        final Structure events = new Structure();
        int conditions = 0;
        private final int[] placesOf = new int[MOST_CONDITIONS];
        private final int[] producers = new int[MOST_CONDITIONS];
        private final int[] transitionsOf = new int[MOST_EVENTS];
        private final long[] taken = new long[MOST_EVENTS];
        private final int[] pasts = new int[MOST_EVENTS];
        private long found = 0;

        /** Makes the whole unfolding; answers false if it has too many events. */
        boolean build(Net net) {
            events.empty();
            conditions = 0;
            produce(net.marked, NOBODY);
            for (int made = 0; made <= MOST_EVENTS; made++) {
                int transition = findNext(net);
                if (transition < 0) {
                    return true;
                }
                if (!create(net, transition)) {
                    return false;
                }
            }
            return false;
        }

        private void produce(int places, int producer) {
            for (int p = 0; p < MOST_PLACES; p++) {
                if (contains(places, p) && conditions < MOST_CONDITIONS) {
                    placesOf[conditions] = p;
                    producers[conditions] = producer;
                    conditions++;
                }
            }
        }

        /** The transition of the event to be made next, -1 if there is none; leaves what it takes in found. */
        private int findNext(Net net) {
            for (int t = 0; t < net.transitions; t++) {
                if (seekRow(this, net.inputs[t], t, 0, 0)) {
                    return t;
                }
            }
            return -1;
        }

        /**
         * Goes on with a row of conditions, one for each input place, from a place on, and stops at the first row
         * that can hold together and is not taken by an event of the transition yet.
         */
        private static boolean seekRow(Unfolding made, int inputs, int transition, int place, long row) {
            if (place >= MOST_PLACES) {
                made.found = row;
                return !made.isMade(transition, row);
            }
            if (!contains(inputs, place)) {
                return seekRow(made, inputs, transition, place + 1, row);
            }
            for (int c = 0; c < made.conditions; c++) {
                long longer = row | 1L << c;
                // A row that cannot hold together cannot be mended by more conditions.
                if (made.placesOf[c] == place && made.canHold(longer)
                        && seekRow(made, inputs, transition, place + 1, longer)) {
                    return true;
                }
            }
            return false;
        }

        private boolean isMade(int transition, long row) {
            for (int e = 0; e < events.count; e++) {
                if (transitionsOf[e] == transition && taken[e] == row) {
                    return true;
                }
            }
            return false;
        }

        private boolean canHold(long set) {
            int past = producersWithPasts(set);
            if (!events.holds(past)) {
                return false;
            }
            for (int e = 0; e < events.count; e++) {
                if (contains(past, e) && (taken[e] & set) != 0) {
                    return false;
                }
            }
            return true;
        }

        private int producersWithPasts(long set) {
            int past = 0;
            for (int c = 0; c < conditions; c++) {
                int producer = producers[c];
                if ((set >> c & 1) != 0 && events.has(producer)) {
                    past |= pasts[producer];
                }
            }
            return past;
        }

        private boolean create(Net net, int transition) {
            int event = events.add(net.labels[transition], 1);
            if (event < 0) {
                return false;
            }
            transitionsOf[event] = transition;
            taken[event] = found;
            pasts[event] = producersWithPasts(found) | 1 << event;
            for (int c = 0; c < conditions; c++) {
                if ((found >> c & 1) != 0 && producers[c] != NOBODY) {
                    events.causes[event] |= 1 << producers[c];
                }
            }
            for (int e = 0; e < event; e++) {
                if ((taken[e] & found) != 0) {
                    events.conflicts[e] |= 1 << event;
                    events.conflicts[event] |= 1 << e;
                }
            }
            produce(net.outputs[transition], event);
            return true;
        }
    }

    /**
     * The text buffer and what its text describes. While a text is evaluated, all events stand in one structure:
     * since operands get their numbers from the left to the right, each operand is a range of events, and the
     * range of the latest one ends with the last event.
     */
    private static final class Language {
        private static final int LOOSEST = 1;

        final Structure built = new Structure();
        private final int[] text = new int[LONGEST_TEXT];
        private int length = 0;
        /** The first event of each operand that waits. */
        private final int[] starts = new int[LONGEST_TEXT];
        private int operands = 0;
        /** The operators and opening parentheses that wait. */
        private final int[] waiting = new int[LONGEST_TEXT];
        private int waitingCount = 0;

        int put(int character) {
            if (length >= LONGEST_TEXT) {
                return FULL;
            }
            text[length] = character;
            length++;
            return length;
        }

        void empty() {
            length = 0;
        }

        /** How tightly an operator binds, 0 for all other characters. */
        private static int rank(int character) {
            return character == '+' ? LOOSEST : character == '|' ? 2 : character == ';' ? 3 : 0;
        }

        private static boolean isAtom(int character) {
            return character == '0' || character >= 'a' && character < 'a' + LABELS;
        }

        /** The position of the first character that cannot continue any text, -1 if there is no error. */
        int errorPosition() {
            int depth = 0;
            boolean awaitsAtom = true;
            for (int i = 0; i < length; i++) {
                int c = text[i];
                if (awaitsAtom && c == '(') {
                    depth++;
                } else if (awaitsAtom && isAtom(c)) {
                    awaitsAtom = false;
                } else if (!awaitsAtom && c == ')' && depth > 0) {
                    depth--;
                } else if (!awaitsAtom && rank(c) > 0) {
                    awaitsAtom = true;
                } else {
                    return i;
                }
            }
            return awaitsAtom || depth > 0 ? length : -1;
        }

        /** Builds what a text without errors describes; answers false if it is too large. */
        boolean evaluate() {
            built.empty();
            operands = 0;
            waitingCount = 0;
            for (int i = 0; i < length; i++) {
                int c = text[i];
                int rank = c == ')' ? LOOSEST : rank(c);
                if (rank > 0 && !applyWaiting(rank)) {
                    return false;
                }
                if (c == ')') {
                    dropParenthesis();
                } else if (isAtom(c)) {
                    openOperand();
                    if (c != '0' && built.add(c - 'a', 1) < 0) {
                        return false;
                    }
                } else {
                    keepWaiting(c);
                }
            }
            return applyWaiting(LOOSEST);
        }

        private void dropParenthesis() {
            if (waitingCount > 0) {
                waitingCount--;
            }
        }

        private void keepWaiting(int c) {
            if (waitingCount < LONGEST_TEXT) {
                waiting[waitingCount] = c;
                waitingCount++;
            }
        }

        private void openOperand() {
            if (operands < LONGEST_TEXT) {
                starts[operands] = built.count;
                operands++;
            }
        }

        /**
         * Applies the operators that wait, back to a parenthesis or to one that binds less tightly. Each makes one
         * operand of the latest two.
         */
        private boolean applyWaiting(int rank) {
            while (waitingCount > 0 && operands > 1 && rank(waiting[waitingCount - 1]) >= rank) {
                waitingCount--;
                operands--;
                int left = starts[operands - 1];
                int right = starts[operands];
                if (waiting[waitingCount] == '+') {
                    exclude(left, right);
                } else if (waiting[waitingCount] == ';' && !continueWithCopies(left, right)) {
                    return false;
                }
            }
            return true;
        }

        private void exclude(int left, int right) {
            for (int e = left; e < right; e++) {
                for (int other = right; other < built.count; other++) {
                    built.conflicts[e] |= 1 << other;
                    built.conflicts[other] |= 1 << e;
                }
            }
        }

        /** Lets the right operand follow the left one: itself the first maximal configuration, copies the others. */
        private boolean continueWithCopies(int left, int right) {
            int end = built.count;
            int former = (1 << right) - (1 << left);
            int inner = (1 << end) - (1 << right);
            int shift = 0;
            for (int set = 0; set <= former; set += 1 << left) {
                if (isMaximal(set, left, right)) {
                    for (int e = right; e < end; e++) {
                        if (shift > 0 && built.add(built.labels[e], built.durations[e]) < 0) {
                            return false;
                        }
                        built.causes[e + shift] = (built.causes[e] & inner) << shift | set;
                        built.conflicts[e + shift] = (built.conflicts[e] & inner) << shift;
                    }
                    shift = built.count - right;
                }
            }
            return true;
        }

        private boolean isMaximal(int set, int left, int right) {
            if (!built.holds(set)) {
                return false;
            }
            for (int e = left; e < right; e++) {
                if (!contains(set, e) && built.holds(set | 1 << e)) {
                    return false;
                }
            }
            return true;
        }
    }
}
