/** Calls that bring a new object into states from which edges are tried; none of them is refused. */
final class Bases {
    /** Two structures with pairs and current configurations, a net with a short unfolding, and a saved state. */
    static final String RICH = """
            addEvent 0 4 9
            addEvent 1 5 8
            addPlace true
            addTransition 1 0 3
            occur 0 0
            save
            clear 0
            clearNet
            addPlace true
            addPlace false
            addPlace true
            addTransition 1 2 0
            addTransition 4 2 1
            addTransition 2 0 5
            unfold 1
            clear 1
            addEvent 0 0 5
            addEvent 0 1 7
            addEvent 0 2 1000000000
            addEvent 0 0 1000000000
            addEvent 0 3 1000000000
            addCause 0 0 1
            addCause 0 2 3
            addCause 0 3 4
            addConflict 0 1 3
            addEvent 1 0 1
            addEvent 1 1 0
            addEvent 1 0 1
            addCause 1 0 1
            occur 0 0
            occur 0 2
            occur 1 0
            occur 1 1
            occur 1 2
            """;
    /** All is full, nothing is saved, and the net's unfolding has no end. */
    static final String FULL = """
            addPlace true
            addPlace true
            addPlace false
            addPlace true
            addPlace true
            addPlace true
            addTransition 1 2 0
            addTransition 2 1 1
            addTransition 4 8 2
            addTransition 63 63 3
            addTransition 8 0 4
            addTransition 48 4 5
            addEvent 0 0 1000000000
            addEvent 0 0 1000000000
            addEvent 0 0 1000000000
            addEvent 0 1 1
            addEvent 0 2 2
            addEvent 0 3 3
            addEvent 0 4 4
            addEvent 0 5 5
            addCause 0 0 1
            addCause 0 1 2
            addCause 0 6 7
            addConflict 0 3 4
            addConflict 0 5 7
            addEvent 1 0 0
            addEvent 1 0 0
            addEvent 1 0 0
            addEvent 1 0 0
            addEvent 1 1 0
            addEvent 1 1 0
            addEvent 1 1 0
            addEvent 1 5 0
            addCause 1 0 1
            addConflict 1 0 1
            occur 0 0
            occur 0 1
            occur 0 6
            occur 1 7
            occur 1 0
            """;
    /** Text that fills the buffer, for the end of a base. */
    static final String LONGEST_TEXT = "write (a|b+c;(d+e)|f)+0;a|b+c|(d;(e+0)|0)|0;0;\n";

    private Bases() {
    }

    static EventStructures make(String... parts) {
        EventStructures x = new EventStructures();
        for (String part : parts) {
            for (int answer : Script.run(x, part)) {
                Checks.due("a call of a base is taken", answer < 0 ? 0 : 1, 1);
            }
        }
        return x;
    }
}
