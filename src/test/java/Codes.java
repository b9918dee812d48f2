/** The constants of the document, written out, and numbers that lie far outside of every range. */
interface Codes {
    int NO_SUCH_ELEMENT = -1;
    int OUT_OF_RANGE = -2;
    int FULL = -3;
    int CYCLE = -4;
    int NOT_POSSIBLE = -5;
    int TOO_LARGE = -6;
    int NONE = -7;
    int OVERFLOW = -8;

    int LOWEST = Integer.MIN_VALUE;
    int HIGHEST = Integer.MAX_VALUE;
    int LONGEST = 1000000000;
}
