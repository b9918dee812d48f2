/** Counts and prints the answers that are not due, and ends the run with exit code 1 if there was one. */
final class Checks {
    private static int made = 0;
    private static int wrong = 0;
    private static String sentence = "";

    private Checks() {
    }

    /** The sentence of the document that the next checks are about. */
    static void sentence(String text) {
        sentence = text + " | ";
    }

    static void due(String call, long got, long want) {
        made++;
        if (got != want) {
            wrong++;
            System.out.println(sentence + call + " answered " + got + ", due is " + want);
        }
    }

    static void finish() {
        System.out.println(made + " answers checked, " + wrong + " not as due");
        if (wrong != 0 || made == 0) {
            System.exit(1);
        }
    }
}
