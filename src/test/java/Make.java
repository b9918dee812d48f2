/** Objects in states that tests begin with. */
final class Make {
    private Make() {
    }

    static void write(EventStructures x, String text) {
        for (int i = 0; i < text.length(); i++) {
            Checks.due("append to " + text, x.append(text.charAt(i)), i + 1);
        }
    }

    /** What parse answers to a text; the text buffer must be empty before. */
    static int parse(EventStructures x, int structure, String text) {
        write(x, text);
        return x.parse(structure);
    }

    /** A new object whose structures are described by two texts. */
    static EventStructures parsed(String first, String second) {
        EventStructures x = new EventStructures();
        Checks.due("parse " + first, Math.min(0, parse(x, 0, first)), 0);
        Checks.due("parse " + second, Math.min(0, parse(x, 1, second)), 0);
        return x;
    }

    /** A new object with events of some labels and of duration 1 in one structure. */
    static EventStructures events(int structure, int... labels) {
        EventStructures x = new EventStructures();
        for (int i = 0; i < labels.length; i++) {
            Checks.due("addEvent", x.addEvent(structure, labels[i], 1), i);
        }
        return x;
    }

    /** A new object with events of label 0 and duration 1 in one structure. */
    static EventStructures many(int structure, int count) {
        return events(structure, new int[count]);
    }

    /** A new object with events in one structure, each a direct cause of the next one. */
    static EventStructures chain(int structure, int count) {
        EventStructures x = many(structure, count);
        for (int e = 1; e < count; e++) {
            Checks.due("addCause", x.addCause(structure, e - 1, e), 1);
        }
        return x;
    }

    /** Lets several events occur, one after the other. */
    static void occur(EventStructures x, int structure, int... events) {
        int now = x.current(structure);
        for (int e : events) {
            now |= 1 << e;
            Checks.due("occur", x.occur(structure, e), now);
        }
    }

    /** Adds places to the net, those of a set marked. */
    static void places(EventStructures x, int count, int marked) {
        for (int p = 0; p < count; p++) {
            Checks.due("addPlace", x.addPlace((marked >> p & 1) != 0), p);
        }
    }
}
