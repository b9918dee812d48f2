import java.util.ArrayList;
import java.util.List;
import java.util.Set;
import java.util.TreeSet;

/**
 * A second program for the same document, made from its definitions as literally as can be and without any thought
 * of speed. RandomRunsTest compares the answers of both.
 */
final class Model {
    /** A structure as the document describes it: events, cause pairs, conflict pairs, and a current configuration. */
    static final class Plain {
        final List<int[]> events = new ArrayList<>();
        final Set<List<Integer>> causes = new java.util.LinkedHashSet<>();
        final Set<Set<Integer>> conflicts = new java.util.LinkedHashSet<>();
        int current = 0;

        Plain copy() {
            Plain copy = new Plain();
            for (int[] event : events) {
                copy.events.add(event.clone());
            }
            copy.causes.addAll(causes);
            copy.conflicts.addAll(conflicts);
            return copy;
        }

        int size() {
            return events.size();
        }

        int labelOf(int e) {
            return events.get(e)[0];
        }

        boolean below(int e, int f) {
            for (List<Integer> pair : causes) {
                if (pair.get(1) == f && (pair.get(0) == e || below(e, pair.get(0)))) {
                    return true;
                }
            }
            return false;
        }

        int past(int e) {
            int set = 1 << e;
            for (int d = 0; d < size(); d++) {
                set |= below(d, e) ? 1 << d : 0;
            }
            return set;
        }

        boolean conflict(int e, int f) {
            for (Set<Integer> pair : conflicts) {
                List<Integer> both = new ArrayList<>(pair);
                int x = both.get(0);
                int y = both.get(1);
                if (has(past(e), x) && has(past(f), y) || has(past(e), y) && has(past(f), x)) {
                    return true;
                }
            }
            return false;
        }

        boolean concurrent(int e, int f) {
            return e != f && !below(e, f) && !below(f, e) && !conflict(e, f);
        }
    }

    /** The answers of a plain structure that are asked again and again. */
    static final class Table {
        final Plain plain;
        final boolean[][] concurrent;
        final boolean[] configuration;

        Table(Plain plain) {
            this.plain = plain;
            int n = plain.size();
            int[] pasts = new int[n];
            boolean[][] conflict = new boolean[n][n];
            concurrent = new boolean[n][n];
            for (int e = 0; e < n; e++) {
                pasts[e] = plain.past(e);
                for (int f = 0; f < n; f++) {
                    conflict[e][f] = plain.conflict(e, f);
                    concurrent[e][f] = plain.concurrent(e, f);
                }
            }
            configuration = new boolean[1 << n];
            for (int set = 0; set < 1 << n; set++) {
                boolean fits = true;
                for (int e = 0; e < n; e++) {
                    for (int f = 0; f < n; f++) {
                        fits &= !(has(set, e) && has(set, f) && conflict[e][f]);
                    }
                    fits &= !has(set, e) || (pasts[e] & ~set) == 0;
                }
                configuration[set] = fits;
            }
        }

        boolean holds(int set) {
            return set >= 0 && set < configuration.length && configuration[set];
        }

        int open(int set) {
            int open = 0;
            for (int e = 0; e < plain.size(); e++) {
                open |= !has(set, e) && holds(set | 1 << e) ? 1 << e : 0;
            }
            return open;
        }

        List<Integer> steps(int set) {
            List<Integer> steps = new ArrayList<>();
            int open = open(set);
            for (int step = 1; step < configuration.length; step++) {
                boolean fits = (step & ~open) == 0;
                for (int e = 0; fits && e < plain.size(); e++) {
                    for (int f = 0; f < e; f++) {
                        fits &= !(has(step, e) && has(step, f)) || concurrent[e][f];
                    }
                }
                if (fits) {
                    steps.add(step);
                }
            }
            return steps;
        }

        List<Integer> moves(int set, int kind) {
            if (kind == 1) {
                return steps(set);
            }
            List<Integer> moves = new ArrayList<>();
            for (int e = 0; e < plain.size(); e++) {
                if (has(open(set), e)) {
                    moves.add(1 << e);
                }
            }
            return moves;
        }

        List<Integer> name(int move) {
            List<Integer> name = new ArrayList<>();
            for (int e = 0; e < plain.size(); e++) {
                if (has(move, e)) {
                    name.add(plain.labelOf(e));
                }
            }
            name.sort(null);
            return name;
        }

        List<Integer> maximal() {
            List<Integer> found = new ArrayList<>();
            for (int set = 0; set < configuration.length; set++) {
                boolean fits = holds(set);
                for (int other = 0; other < configuration.length; other++) {
                    fits &= !(other != set && holds(other) && (set & ~other) == 0);
                }
                if (fits) {
                    found.add(set);
                }
            }
            return found;
        }

        int ways(int from, int to, int kind) {
            if (from == to) {
                return 1;
            }
            int ways = 0;
            for (int move : moves(from, kind)) {
                ways += ((from | move) & ~to) == 0 ? ways(from | move, to, kind) : 0;
            }
            return ways;
        }

        long chain(int set, int last) {
            long longest = 0;
            for (List<Integer> pair : plain.causes) {
                longest = pair.get(1) == last ? Math.max(longest, chain(set, pair.get(0))) : longest;
            }
            return longest + plain.events.get(last)[1];
        }

        void words(String word, int set, Set<String> found) {
            found.add(word);
            for (int e = 0; e < plain.size(); e++) {
                if (has(open(set), e)) {
                    words(word + (char) ('a' + plain.labelOf(e)), set | 1 << e, found);
                }
            }
        }

        Set<String> words() {
            Set<String> found = new TreeSet<>();
            words("", 0, found);
            return found;
        }
    }

    final Plain[] plains = {new Plain(), new Plain()};
    private final Table[] tables = new Table[2];
    private final List<Boolean> places = new ArrayList<>();
    private final List<int[]> transitions = new ArrayList<>();
    private int conditionCount = 0;
    private String text = "";
    private Plain[] saved = null;
    private List<Boolean> savedPlaces = null;
    private List<int[]> savedTransitions = null;

    static boolean has(int set, int element) {
        return (set >> element & 1) == 1;
    }

    private static boolean noStructure(int s) {
        return s != 0 && s != 1;
    }

    private boolean noEvent(int s, int e) {
        return noStructure(s) || e < 0 || e >= plains[s].size();
    }

    private void changed(int s) {
        plains[s].current = 0;
        tables[s] = null;
    }

    Table table(int s) {
        if (tables[s] == null) {
            tables[s] = new Table(plains[s]);
        }
        return tables[s];
    }

    int addEvent(int s, int label, int duration) {
        if (noStructure(s)) {
            return -1;
        }
        if (label < 0 || label > 5 || duration < 0 || duration > 1000000000) {
            return -2;
        }
        if (plains[s].size() == 8) {
            return -3;
        }
        plains[s].events.add(new int[] {label, duration});
        changed(s);
        return plains[s].size() - 1;
    }

    int removeEvent(int s, int event) {
        if (noEvent(s, event)) {
            return -1;
        }
        Plain old = plains[s];
        Plain rest = new Plain();
        for (int e = 0; e < old.size(); e++) {
            if (e != event) {
                rest.events.add(old.events.get(e));
            }
        }
        for (List<Integer> pair : old.causes) {
            if (!pair.contains(event)) {
                rest.causes.add(List.of(lower(pair.get(0), event), lower(pair.get(1), event)));
            }
        }
        for (Set<Integer> pair : old.conflicts) {
            if (!pair.contains(event)) {
                Set<Integer> moved = new TreeSet<>();
                for (int e : pair) {
                    moved.add(lower(e, event));
                }
                rest.conflicts.add(moved);
            }
        }
        plains[s] = rest;
        changed(s);
        return rest.size();
    }

    private static int lower(int e, int removed) {
        return e > removed ? e - 1 : e;
    }

    int addCause(int s, int cause, int effect) {
        if (noEvent(s, cause) || noEvent(s, effect)) {
            return -1;
        }
        if (cause == effect || plains[s].below(effect, cause)) {
            return -4;
        }
        boolean isNew = plains[s].causes.add(List.of(cause, effect));
        changed(s);
        return isNew ? 1 : 0;
    }

    int addConflict(int s, int first, int second) {
        if (noEvent(s, first) || noEvent(s, second)) {
            return -1;
        }
        if (first == second) {
            return -2;
        }
        boolean isNew = plains[s].conflicts.add(new TreeSet<>(List.of(first, second)));
        changed(s);
        return isNew ? 1 : 0;
    }

    int setLabel(int s, int event, int label) {
        if (noEvent(s, event)) {
            return -1;
        }
        if (label < 0 || label > 5) {
            return -2;
        }
        int previous = plains[s].labelOf(event);
        plains[s].events.set(event, new int[] {label, plains[s].events.get(event)[1]});
        changed(s);
        return previous;
    }

    int clear(int s) {
        if (noStructure(s)) {
            return -1;
        }
        int removed = plains[s].size();
        plains[s] = new Plain();
        changed(s);
        return removed;
    }

    int copy(int from, int to) {
        if (noStructure(from) || noStructure(to)) {
            return -1;
        }
        plains[to] = plains[from].copy();
        changed(to);
        return plains[to].size();
    }

    int eventCount(int s) {
        return noStructure(s) ? -1 : plains[s].size();
    }

    int label(int s, int event) {
        return noEvent(s, event) ? -1 : plains[s].labelOf(event);
    }

    int isBelow(int s, int first, int second) {
        return noEvent(s, first) || noEvent(s, second) ? -1 : plains[s].below(first, second) ? 1 : 0;
    }

    int areInConflict(int s, int first, int second) {
        return noEvent(s, first) || noEvent(s, second) ? -1 : plains[s].conflict(first, second) ? 1 : 0;
    }

    int history(int s, int event) {
        return noEvent(s, event) ? -1 : plains[s].past(event);
    }

    int concurrentPairs(int s) {
        if (noStructure(s)) {
            return -1;
        }
        int pairs = 0;
        for (int e = 0; e < plains[s].size(); e++) {
            for (int f = 0; f < e; f++) {
                pairs += plains[s].concurrent(e, f) ? 1 : 0;
            }
        }
        return pairs;
    }

    int isConfiguration(int s, int set) {
        return noStructure(s) ? -1 : table(s).holds(set) ? 1 : 0;
    }

    int configurationCount(int s) {
        if (noStructure(s)) {
            return -1;
        }
        int count = 0;
        for (boolean is : table(s).configuration) {
            count += is ? 1 : 0;
        }
        return count;
    }

    int maximalCount(int s) {
        return noStructure(s) ? -1 : table(s).maximal().size();
    }

    int maximalConfiguration(int s, int index) {
        if (noStructure(s)) {
            return -1;
        }
        List<Integer> maximal = table(s).maximal();
        return index < 0 || index >= maximal.size() ? -7 : maximal.get(index);
    }

    /** The error for a structure and a set that should be a configuration, 0 if there is none. */
    private int error(int s, int set) {
        return noStructure(s) ? -1 : table(s).holds(set) ? 0 : -5;
    }

    int enabled(int s, int set) {
        return error(s, set) < 0 ? error(s, set) : table(s).open(set);
    }

    int stepCount(int s, int set) {
        return error(s, set) < 0 ? error(s, set) : table(s).steps(set).size();
    }

    int largestStep(int s, int set) {
        if (error(s, set) < 0) {
            return error(s, set);
        }
        int largest = 0;
        for (int step : table(s).steps(set)) {
            largest = Integer.bitCount(step) >= Integer.bitCount(largest) ? step : largest;
        }
        return largest;
    }

    int runCount(int s, int set) {
        return error(s, set) < 0 ? error(s, set) : table(s).ways(0, set, 0);
    }

    int stepRunCount(int s, int set) {
        return error(s, set) < 0 ? error(s, set) : table(s).ways(0, set, 1);
    }

    int shortestTime(int s, int set) {
        if (error(s, set) < 0) {
            return error(s, set);
        }
        long longest = 0;
        for (int e = 0; e < plains[s].size(); e++) {
            longest = has(set, e) ? Math.max(longest, table(s).chain(set, e)) : longest;
        }
        return longest > 2147483647L ? -8 : (int) longest;
    }

    int totalTime(int s, int set) {
        if (error(s, set) < 0) {
            return error(s, set);
        }
        long sum = 0;
        for (int e = 0; e < plains[s].size(); e++) {
            sum += has(set, e) ? plains[s].events.get(e)[1] : 0;
        }
        return sum > 2147483647L ? -8 : (int) sum;
    }

    int occur(int s, int event) {
        if (noEvent(s, event)) {
            return -1;
        }
        if (!has(table(s).open(plains[s].current), event)) {
            return -5;
        }
        plains[s].current |= 1 << event;
        return plains[s].current;
    }

    int withdraw(int s, int event) {
        if (noEvent(s, event)) {
            return -1;
        }
        Plain plain = plains[s];
        for (int e = 0; e < plain.size(); e++) {
            if (has(plain.current, e) && plain.below(event, e)) {
                return -5;
            }
        }
        if (!has(plain.current, event)) {
            return -5;
        }
        plain.current -= 1 << event;
        return plain.current;
    }

    int current(int s) {
        return noStructure(s) ? -1 : plains[s].current;
    }

    /** All configurations of both structures as pairs of a structure and a set. */
    private List<int[]> states() {
        List<int[]> states = new ArrayList<>();
        for (int s = 0; s < 2; s++) {
            for (int set = 0; set < table(s).configuration.length; set++) {
                if (table(s).holds(set)) {
                    states.add(new int[] {s, set});
                }
            }
        }
        return states;
    }

    /** For a state its moves as pairs of a name and the number of the state behind the move. */
    private List<List<Object[]>> allMoves(List<int[]> states, int kind) {
        int[][] numbers = new int[2][256];
        for (int i = 0; i < states.size(); i++) {
            numbers[states.get(i)[0]][states.get(i)[1]] = i;
        }
        List<List<Object[]>> all = new ArrayList<>();
        for (int[] state : states) {
            Table table = table(state[0]);
            List<Object[]> moves = new ArrayList<>();
            for (int move : table.moves(state[1], kind)) {
                moves.add(new Object[] {table.name(move), numbers[state[0]][state[1] | move]});
            }
            all.add(moves);
        }
        return all;
    }

    private static boolean answers(List<Object[]> mine, List<Object[]> others, boolean[][] equal) {
        for (Object[] move : mine) {
            boolean found = false;
            for (Object[] other : others) {
                found |= equal[(Integer) move[1]][(Integer) other[1]] && move[0].equals(other[0]);
            }
            if (!found) {
                return false;
            }
        }
        return true;
    }

    /** The round of separation, 0 if there is none, and the number of classes. */
    private int[] bisimulation(int kind) {
        List<int[]> states = states();
        List<List<Object[]>> moves = allMoves(states, kind);
        int n = states.size();
        int second = 0;
        while (states.get(second)[0] == 0) {
            second++;
        }
        boolean[][] equal = new boolean[n][n];
        for (boolean[] row : equal) {
            java.util.Arrays.fill(row, true);
        }
        int separation = 0;
        for (int round = 1; round <= 20; round++) {
            boolean[][] next = new boolean[n][n];
            for (int i = 0; i < n; i++) {
                for (int j = 0; j < n; j++) {
                    next[i][j] = equal[i][j] && answers(moves.get(i), moves.get(j), equal)
                            && answers(moves.get(j), moves.get(i), equal);
                }
            }
            equal = next;
            if (separation == 0 && !equal[0][second]) {
                separation = round;
            }
        }
        int classes = 0;
        for (int i = 0; i < n; i++) {
            boolean isFirst = true;
            for (int j = 0; j < i; j++) {
                isFirst &= !equal[i][j];
            }
            classes += isFirst ? 1 : 0;
        }
        return new int[] {separation, classes};
    }

    int areBisimilar(int kind) {
        return kind != 0 && kind != 1 ? -2 : bisimulation(kind)[0] == 0 ? 1 : 0;
    }

    int separationRound(int kind) {
        if (kind != 0 && kind != 1) {
            return -2;
        }
        int round = bisimulation(kind)[0];
        return round == 0 ? -7 : round;
    }

    int equivalenceClasses(int kind) {
        return kind != 0 && kind != 1 ? -2 : bisimulation(kind)[1];
    }

    private String difference() {
        Set<String> first = table(0).words();
        Set<String> second = table(1).words();
        String best = null;
        Set<String> all = new TreeSet<>(first);
        all.addAll(second);
        for (String word : all) {
            boolean inOne = first.contains(word) != second.contains(word);
            if (inOne && (best == null || word.length() < best.length())) {
                best = word;
            }
        }
        return best;
    }

    int wordDifferenceLength() {
        String difference = difference();
        return difference == null ? -7 : difference.length();
    }

    int wordDifferenceLabel(int index) {
        String difference = difference();
        return difference == null || index < 0 || index >= difference.length() ? -7 : difference.charAt(index) - 'a';
    }

    int wordCount(int s) {
        return noStructure(s) ? -1 : table(s).words().size();
    }

    int refine(int s, int label, int first, int second, boolean inSequence) {
        if (noStructure(s)) {
            return -1;
        }
        if (label < 0 || label > 5 || first < 0 || first > 5 || second < 0 || second > 5) {
            return -2;
        }
        Plain old = plains[s];
        Plain made = new Plain();
        List<List<Integer>> numbers = new ArrayList<>();
        for (int e = 0; e < old.size(); e++) {
            int next = made.size();
            int duration = old.events.get(e)[1];
            if (old.labelOf(e) == label) {
                made.events.add(new int[] {first, duration});
                made.events.add(new int[] {second, duration});
                numbers.add(List.of(next, next + 1));
                if (inSequence) {
                    made.causes.add(List.of(next, next + 1));
                }
            } else {
                made.events.add(old.events.get(e));
                numbers.add(List.of(next));
            }
        }
        if (made.size() > 8) {
            return -6;
        }
        for (List<Integer> pair : old.causes) {
            for (int e : numbers.get(pair.get(0))) {
                for (int f : numbers.get(pair.get(1))) {
                    made.causes.add(List.of(e, f));
                }
            }
        }
        for (Set<Integer> pair : old.conflicts) {
            List<Integer> both = new ArrayList<>(pair);
            for (int e : numbers.get(both.get(0))) {
                for (int f : numbers.get(both.get(1))) {
                    made.conflicts.add(new TreeSet<>(List.of(e, f)));
                }
            }
        }
        plains[s] = made;
        changed(s);
        return made.size();
    }

    int clearNet() {
        int removed = places.size();
        places.clear();
        transitions.clear();
        return removed;
    }

    int addPlace(boolean marked) {
        if (places.size() == 6) {
            return -3;
        }
        places.add(marked);
        return places.size() - 1;
    }

    int addTransition(int inputs, int outputs, int label) {
        for (int p = 0; p < 32; p++) {
            if (p >= places.size() && (has(inputs, p) || has(outputs, p))) {
                return -1;
            }
        }
        if (inputs == 0 || label < 0 || label > 5) {
            return -2;
        }
        if (transitions.size() == 6) {
            return -3;
        }
        transitions.add(new int[] {inputs, outputs, label});
        return transitions.size() - 1;
    }

    /** The unfolding while it is made; conditions are pairs of a place and a producer, or -1. */
    private final class Occurrences {
        final Plain events = new Plain();
        final List<int[]> conditions = new ArrayList<>();
        final List<Integer> kinds = new ArrayList<>();
        final List<Set<Integer>> takes = new ArrayList<>();

        boolean holdTogether(Set<Integer> set) {
            Set<Integer> before = new TreeSet<>();
            for (int c : set) {
                int producer = conditions.get(c)[1];
                for (int e = 0; producer >= 0 && e < events.size(); e++) {
                    if (has(events.past(producer), e)) {
                        before.add(e);
                    }
                }
            }
            for (int e : before) {
                for (int f : before) {
                    if (events.conflict(e, f)) {
                        return false;
                    }
                }
                for (int c : takes.get(e)) {
                    if (set.contains(c)) {
                        return false;
                    }
                }
            }
            return true;
        }

        /** All rows of conditions for the input places from one on, in lexicographic order. */
        List<List<Integer>> rows(int inputs, int place) {
            List<List<Integer>> rows = new ArrayList<>();
            if (place == 6) {
                rows.add(List.of());
                return rows;
            }
            List<List<Integer>> ends = rows(inputs, place + 1);
            if (!has(inputs, place)) {
                return ends;
            }
            for (int c = 0; c < conditions.size(); c++) {
                for (List<Integer> end : ends) {
                    if (conditions.get(c)[0] == place) {
                        List<Integer> row = new ArrayList<>(List.of(c));
                        row.addAll(end);
                        rows.add(row);
                    }
                }
            }
            return rows;
        }

        boolean isThere(int kind, Set<Integer> set) {
            for (int e = 0; e < events.size(); e++) {
                if (kinds.get(e) == kind && takes.get(e).equals(set)) {
                    return true;
                }
            }
            return false;
        }

        boolean addNext() {
            for (int t = 0; t < transitions.size(); t++) {
                for (List<Integer> row : rows(transitions.get(t)[0], 0)) {
                    Set<Integer> set = new TreeSet<>(row);
                    if (!isThere(t, set) && holdTogether(set)) {
                        add(t, set);
                        return true;
                    }
                }
            }
            return false;
        }

        void add(int t, Set<Integer> set) {
            int event = events.size();
            events.events.add(new int[] {transitions.get(t)[2], 1});
            for (int c : set) {
                if (conditions.get(c)[1] >= 0) {
                    events.causes.add(List.of(conditions.get(c)[1], event));
                }
            }
            for (int e = 0; e < event; e++) {
                Set<Integer> common = new TreeSet<>(takes.get(e));
                common.retainAll(set);
                if (!common.isEmpty()) {
                    events.conflicts.add(new TreeSet<>(List.of(e, event)));
                }
            }
            kinds.add(t);
            takes.add(set);
            produce(transitions.get(t)[1], event);
        }

        void produce(int set, int producer) {
            for (int p = 0; p < 6; p++) {
                if (has(set, p)) {
                    conditions.add(new int[] {p, producer});
                }
            }
        }
    }

    int unfold(int s) {
        if (noStructure(s)) {
            return -1;
        }
        Occurrences made = new Occurrences();
        int marking = 0;
        for (int p = 0; p < places.size(); p++) {
            marking |= places.get(p) ? 1 << p : 0;
        }
        made.produce(marking, -1);
        while (made.addNext()) {
            if (made.events.size() > 8) {
                return -6;
            }
        }
        plains[s] = made.events;
        changed(s);
        conditionCount = made.conditions.size();
        return made.events.size();
    }

    int conditionCount() {
        return conditionCount;
    }

    int append(int character) {
        if (character < 32 || character > 126) {
            return -2;
        }
        if (text.length() == 40) {
            return -3;
        }
        text += (char) character;
        return text.length();
    }

    /** Reads a text by the grammar, rule by rule; a structure of null is one that would be too large. */
    private static final class Reader {
        private final String text;
        private int at = 0;
        private boolean failed = false;
        private boolean tooLarge = false;

        Reader(String text) {
            this.text = text;
        }

        private boolean sees(char c) {
            return !failed && at < text.length() && text.charAt(at) == c;
        }

        Plain whole() {
            Plain read = choice();
            if (at < text.length()) {
                failed = true;
            }
            return read;
        }

        private Plain choice() {
            Plain left = parallel();
            while (sees('+')) {
                at++;
                left = beside(left, parallel(), true);
            }
            return left;
        }

        private Plain parallel() {
            Plain left = sequence();
            while (sees('|')) {
                at++;
                left = beside(left, sequence(), false);
            }
            return left;
        }

        private Plain sequence() {
            Plain left = atom();
            while (sees(';')) {
                at++;
                left = behind(left, atom());
            }
            return left;
        }

        private Plain atom() {
            Plain read = new Plain();
            if (sees('(')) {
                at++;
                read = choice();
                if (sees(')')) {
                    at++;
                } else {
                    failed = true;
                }
            } else if (sees('0')) {
                at++;
            } else if (!failed && at < text.length() && "abcdef".indexOf(text.charAt(at)) >= 0) {
                read.events.add(new int[] {text.charAt(at) - 'a', 1});
                at++;
            } else {
                failed = true;
            }
            return read;
        }

        private void append(Plain left, Plain right, int causes) {
            int base = left.size();
            left.events.addAll(right.events);
            for (List<Integer> pair : right.causes) {
                left.causes.add(List.of(pair.get(0) + base, pair.get(1) + base));
            }
            for (Set<Integer> pair : right.conflicts) {
                Set<Integer> moved = new TreeSet<>();
                for (int e : pair) {
                    moved.add(e + base);
                }
                left.conflicts.add(moved);
            }
            for (int e = 0; e < base; e++) {
                for (int f = base; f < left.size(); f++) {
                    if (has(causes, e)) {
                        left.causes.add(List.of(e, f));
                    }
                }
            }
        }

        private Plain beside(Plain left, Plain right, boolean isChoice) {
            if (failed || tooLarge || left.size() + right.size() > 8) {
                tooLarge = true;
                return new Plain();
            }
            Plain made = left.copy();
            append(made, right, 0);
            for (int e = 0; isChoice && e < left.size(); e++) {
                for (int f = left.size(); f < made.size(); f++) {
                    made.conflicts.add(new TreeSet<>(List.of(e, f)));
                }
            }
            return made;
        }

        private Plain behind(Plain left, Plain right) {
            List<Integer> maximal = new Table(left).maximal();
            if (failed || tooLarge || left.size() + maximal.size() * right.size() > 8) {
                tooLarge = true;
                return new Plain();
            }
            Plain made = left.copy();
            for (int configuration : maximal) {
                append(made, right, configuration);
            }
            return made;
        }
    }

    int parse(int s) {
        Reader reader = new Reader(text);
        text = "";
        if (noStructure(s)) {
            return -1;
        }
        Plain read = reader.whole();
        if (reader.failed) {
            return -100 - reader.at;
        }
        if (reader.tooLarge) {
            return -6;
        }
        plains[s] = read;
        changed(s);
        return read.size();
    }

    int save() {
        saved = new Plain[] {plains[0].copy(), plains[1].copy()};
        saved[0].current = plains[0].current;
        saved[1].current = plains[1].current;
        savedPlaces = new ArrayList<>(places);
        savedTransitions = new ArrayList<>(transitions);
        return plains[0].size() + plains[1].size();
    }

    int restore() {
        if (saved == null) {
            return -7;
        }
        for (int s = 0; s < 2; s++) {
            plains[s] = saved[s].copy();
            changed(s);
            plains[s].current = saved[s].current;
        }
        places.clear();
        places.addAll(savedPlaces);
        transitions.clear();
        transitions.addAll(savedTransitions);
        return plains[0].size() + plains[1].size();
    }
}
