/** Each sentence about the text buffer and the process language (promises 41 and 42) that names a boundary case. */
public final class TextBoundsTest implements Codes {
    private static final int FIRST = 32;
    private static final int LAST = 126;
    private static final int LENGTH = 40;

    private TextBoundsTest() {
    }

    private static void sentence(String text) {
        Checks.sentence(text);
    }

    private static void due(String call, long got, long want) {
        Checks.due(call, got, want);
    }

    /** What a new object answers to a text. */
    private static int parse(String text) {
        return Make.parse(new EventStructures(), 0, text);
    }

    private static void dueError(String text, int position) {
        due("parse of " + text, parse(text), -100 - position);
    }

    /** Checks labels and histories of what a text describes. */
    private static EventStructures dueEvents(String text, String labels, int... histories) {
        EventStructures x = new EventStructures();
        due("parse of " + text, Make.parse(x, 0, text), labels.length());
        for (int e = 0; e < labels.length(); e++) {
            due("label " + e + " of " + text, x.label(0, e), labels.charAt(e) - 'a');
            due("history " + e + " of " + text, x.history(0, e), histories[e]);
        }
        return x;
    }

    // Promise 41

    private static void codesThatAreTaken() {
        sentence("41: character: the character code, 32 to 126");
        EventStructures x = new EventStructures();
        int length = 0;
        for (int c = FIRST; c <= LAST; c++) {
            if (length == LENGTH) {
                x.parse(0);
                length = 0;
            }
            length++;
            due("append(" + c + ")", x.append(c), length);
        }
    }

    private static void codesThatAreRefused() {
        sentence("41: OUT_OF_RANGE if character is not from 32 to 126");
        EventStructures x = new EventStructures();
        for (int c : new int[] {FIRST - 1, LAST + 1, 0, -1, -32, -97, 128, 255, 256, 256 + 'a', 65536 + 'a', LOWEST,
            LOWEST + 'a', HIGHEST}) {
            due("append(" + c + ")", x.append(c), OUT_OF_RANGE);
        }
        due("append(32)", x.append(FIRST), 1);
        due("append(126)", x.append(LAST), 2);
    }

    private static void fortyCharacters() {
        sentence("Process language: The text buffer contains at most 40 characters; 41: FULL if the text has 40");
        EventStructures x = new EventStructures();
        for (int i = 1; i <= LENGTH; i++) {
            due("append", x.append(i % 2 == 1 ? 'a' : '+'), i);
        }
        due("the next one", x.append('a'), FULL);
        due("and another one", x.append(FIRST), FULL);
        due("forty are in it", x.parse(0), -140);
        due("append", x.append('a'), 1);
    }

    private static void outOfRangeBeforeFull() {
        sentence("41: If several errors apply, the one that is listed first is returned");
        EventStructures x = new EventStructures();
        Make.write(x, "0".repeat(LENGTH));
        for (int c : new int[] {FIRST - 1, LAST + 1, LOWEST, HIGHEST}) {
            due("append(" + c + ") to a full text", x.append(c), OUT_OF_RANGE);
        }
        due("append(126) to a full text", x.append(LAST), FULL);
    }

    private static void refusedCharactersAreNotAppended() {
        sentence("Errors: A method that returns an error code leaves the state unchanged (append)");
        EventStructures x = new EventStructures();
        Make.write(x, "a;");
        due("append(127)", x.append(127), OUT_OF_RANGE);
        due("append(31)", x.append(31), OUT_OF_RANGE);
        due("the next length", x.append('b'), 3);
        due("parse", x.parse(0), 2);
        Make.write(x, "a" + ";b".repeat(3) + ";(b" + "+0".repeat(14) + ")");
        due("append to 39", x.append(';'), 40);
        due("append to a full text", x.append('a'), FULL);
        due("parse", x.parse(0), -140);
    }

    // Promise 42: errors

    private static void textIsEmptyAfterwards() {
        sentence("42: The text buffer is empty afterwards in every case");
        EventStructures x = new EventStructures();
        due("a text", Make.parse(x, 0, "a"), 1);
        due("an error in it", Make.parse(x, 0, "a+"), -102);
        due("too large", Make.parse(x, 0, "a|a|a|a|a|a|a|a|a"), TOO_LARGE);
        due("no structure", Make.parse(x, 2, "a"), NO_SUCH_ELEMENT);
        due("no structure, and an error", Make.parse(x, -1, "a)"), NO_SUCH_ELEMENT);
        due("no structure, and too large", Make.parse(x, LOWEST, "a|a|a|a|a|a|a|a|a"), NO_SUCH_ELEMENT);
        due("the full text", Make.parse(x, 1, "(".repeat(LENGTH)), -140);
        due("nothing", x.parse(1), -100);
        due("append", x.append('b'), 1);
        due("only that one", x.parse(1), 1);
        due("label", x.label(1, 0), 1);
    }

    private static void emptyText() {
        sentence("Process language: if the text ends too early, it is the length of the text");
        dueError("", 0);
        dueError("(", 1);
        dueError("a+", 2);
        dueError("a|", 2);
        dueError("a;", 2);
        dueError("(a", 2);
        dueError("(a)+", 4);
        dueError("((a)", 4);
        dueError("a;(b", 4);
        dueError("(".repeat(39), 39);
        dueError("(".repeat(LENGTH), LENGTH);
        dueError("(".repeat(20) + "a" + ")".repeat(19), LENGTH);
        dueError("a+".repeat(20), LENGTH);
    }

    private static void charactersAtTheBeginning() {
        sentence("Process language: atom: a letter from a to f, or the digit 0, or ( choice )");
        for (int c = FIRST; c <= LAST; c++) {
            String text = String.valueOf((char) c);
            boolean isLetter = c >= 'a' && c <= 'f';
            if (c == '(') {
                dueError(text, 1);
            } else {
                due("parse of " + text, parse(text), isLetter ? 1 : c == '0' ? 0 : -100);
            }
        }
    }

    private static void charactersAfterAnAtom() {
        sentence("Process language: choice: parallel { + parallel }; parallel: sequence { | sequence }; "
                + "sequence: atom { ; atom }");
        for (int c = FIRST; c <= LAST; c++) {
            boolean isOperator = c == '+' || c == '|' || c == ';';
            String text = "a" + (char) c;
            dueError(text, isOperator ? 2 : 1);
            due("parse of " + text + "a", parse(text + "a"), isOperator ? 2 : -101);
            dueError("(a)" + (char) c, isOperator ? 4 : 3);
        }
    }

    private static void charactersAfterAnOperator() {
        sentence("Process language: an atom behind each operator");
        for (String before : new String[] {"a+", "0|", "(b);", "("}) {
            for (int c = FIRST; c <= LAST; c++) {
                boolean isAtom = c >= 'a' && c <= 'f' || c == '0' || c == '(';
                boolean goesOn = isAtom && (c == '(' || before.equals("("));
                String text = before + (char) c;
                if (goesOn) {
                    dueError(text, text.length());
                } else if (!isAtom) {
                    dueError(text, before.length());
                } else {
                    int events = before.replaceAll("[^a-f]", "").length() + (c == '0' ? 0 : 1);
                    due("parse of " + text, parse(text), events);
                }
            }
        }
    }

    private static void charactersInParentheses() {
        sentence("Process language: ( choice )");
        for (int c = FIRST; c <= LAST; c++) {
            String text = "(a" + (char) c;
            boolean isOperator = c == '+' || c == '|' || c == ';';
            if (c == ')') {
                due("parse of " + text, parse(text), 1);
            } else {
                dueError(text, isOperator ? 3 : 2);
            }
        }
        dueError("a)", 1);
        dueError("(a))", 3);
        dueError("()", 1);
        dueError("(a+)", 3);
        dueError("(a)(b)", 3);
        dueError("(a)b", 3);
        dueError("a(b)", 1);
    }

    private static void noSpaces() {
        sentence("Process language: there are no spaces");
        dueError(" a", 0);
        dueError("a ", 1);
        dueError("a +b", 1);
        dueError("a+ b", 2);
        dueError("( a)", 1);
        dueError(" ", 0);
    }

    private static void firstErrorCounts() {
        sentence("Process language: the position, from 0, of the first character that cannot continue any text");
        dueError("a++", 2);
        dueError("++", 0);
        dueError("a;b)c)", 3);
        dueError("((a)b)c", 4);
        dueError("a" + "+a".repeat(19) + "a", 39);
        dueError("0".repeat(LENGTH), 1);
        dueError("(".repeat(38) + ")~", 38);
        dueError("(".repeat(39) + "+", 39);
    }

    private static void longestTexts() {
        sentence("Process language: at most 40 characters, of which a text of the grammar can have 39");
        due("many operators", parse("0" + "+0".repeat(19)), 0);
        due("an event at the end", parse("0" + "|0".repeat(18) + ";a"), 1);
        due("deep parentheses", parse("(".repeat(19) + "f" + ")".repeat(19)), 1);
        due("many copies of nothing", parse("a" + ";0".repeat(19)), 1);
        String open = "(".repeat(10) + "0+(a|(b;(c+d)));0)|e";
        due("39 characters", parse(open + ")".repeat(9)), 5);
        dueError(open + ")".repeat(8), 38);
        dueError(open + ")".repeat(10), 39);
    }

    private static void errorBeforeSize() {
        sentence("42: TOO_LARGE if the text follows the grammar and is too large");
        due("nine", parse("a|a|a|a|a|a|a|a|a"), TOO_LARGE);
        dueError("a|a|a|a|a|a|a|a|a|", 18);
        dueError("a|a|a|a|a|a|a|a|ag", 17);
        dueError("(a|a|a|a|a|a|a|a|a", 18);
    }

    private static void noStructureBeforeAll() {
        sentence("42: If several errors apply, the one that is listed first is returned");
        EventStructures x = new EventStructures();
        for (int s : new int[] {-1, 2, 256, LOWEST, HIGHEST}) {
            due("an error", Make.parse(x, s, "+"), NO_SUCH_ELEMENT);
            due("no text", x.parse(s), NO_SUCH_ELEMENT);
            due("too large", Make.parse(x, s, "a|a|a|a|a|a|a|a|a"), NO_SUCH_ELEMENT);
            due("a text", Make.parse(x, s, "a"), NO_SUCH_ELEMENT);
        }
        due("the last structure", Make.parse(x, 1, "+"), -100);
    }

    // Promise 42: what texts describe

    private static void eightEventsOrNine() {
        sentence("Process language: too large if one of its parts would have more than 8 events");
        for (char operator : new char[] {'+', '|', ';'}) {
            due("eight by " + operator, parse("a" + (operator + "b").repeat(7)), 8);
            due("nine by " + operator, parse("a" + (operator + "b").repeat(8)), TOO_LARGE);
            due("eight by " + operator + " and none", parse("a" + (operator + "b").repeat(7) + operator + "0"), 8);
        }
        due("four copies", parse("(a+b+c+d);e"), 8);
        due("five copies", parse("(a+b+c+d+e);f"), TOO_LARGE);
        due("two copies of three", parse("(a+b);(c|d|e)"), 8);
        due("two copies of four", parse("(a+b);(c|d|e|f)"), TOO_LARGE);
        due("copies of copies", parse("(a+b);c;d;e"), 8);
        due("copies of copies", parse("(a+b);c;d;e;f"), TOO_LARGE);
        due("four maximal configurations", parse("(a|b|(c+d));e"), 6);
        due("sixteen maximal configurations", parse("((a+b)|(a+b)|(a+b)|(a+b));c"), TOO_LARGE);
        due("sixteen maximal configurations, no copy", parse("((a+b)|(a+b)|(a+b)|(a+b));0"), 8);
    }

    private static void partsThatAreTooLarge() {
        sentence("Process language: one of its parts, in the order of evaluation");
        due("the first part", parse("(a|a|a|a|a|a|a|a|a);0"), TOO_LARGE);
        due("the last part", parse("0;(a|a|a|a|a|a|a|a|a)"), TOO_LARGE);
        due("an inner part", parse("(0+(0;(a|(b;c;d;e;f;a;b;c))));0"), TOO_LARGE);
        due("a part in parentheses", parse("((a+b);(c|d|e|f))"), TOO_LARGE);
        due("a part in parentheses, and nothing", parse("((a+b);(c|d|e|f));0"), TOO_LARGE);
        due("a part before another operator", parse("(a+b);(c|d|e|f)|0"), TOO_LARGE);
        due("a part before the same operator", parse("(a+b);(c|d|e|f);0"), TOO_LARGE);
        due("two parts of eight", parse("(a|a|a|a|a|a|a|a)+(a|a|a|a|a|a|a|a)"), TOO_LARGE);
        due("parts of four", parse("(a|a|a|a)+(a|a|a|a)"), 8);
        due("parts of five and four", parse("(a|a|a|a|a)+(a|a|a|a)"), TOO_LARGE);
    }

    private static void letters() {
        sentence("Process language: A letter is a structure with one event; the labels 0 to 5 are written a to f");
        for (int label = 0; label <= 5; label++) {
            EventStructures x = new EventStructures();
            due("parse", Make.parse(x, 1, String.valueOf((char) ('a' + label))), 1);
            due("label", x.label(1, 0), label);
        }
        dueError("g", 0);
        dueError("`", 0);
        dueError("A", 0);
    }

    private static void nothing() {
        sentence("Process language: The digit 0 is the structure without events");
        EventStructures x = Make.many(0, 8);
        due("0", Make.parse(x, 0, "0"), 0);
        due("eventCount", x.eventCount(0), 0);
        for (String text : new String[] {"0+0", "0|0", "0;0", "(0)", "0;(0+0|0);0"}) {
            due(text, parse(text), 0);
        }
        for (String text : new String[] {"a+0", "0+a", "a|0", "0|a", "a;0", "0;a", "0;a;0", "(0+0);a"}) {
            dueEvents(text, "a", 1);
        }
        dueError("1", 0);
        dueError("00", 1);
        dueError("O", 0);
    }

    private static void choices() {
        sentence("Process language: In a choice each event of one operand and each event of another operand are a "
                + "conflict pair");
        EventStructures x = dueEvents("a;b+c+d|e", "abcde", 1, 3, 4, 8, 16);
        int[] operands = {0, 0, 1, 2, 2};
        for (int e = 0; e < 5; e++) {
            for (int f = 0; f < e; f++) {
                due("pair of " + e + " and " + f, x.addConflict(0, e, f), operands[e] == operands[f] ? 1 : 0);
            }
        }
    }

    private static void parallels() {
        sentence("Process language: In a parallel composition the operands are put side by side");
        EventStructures x = dueEvents("(a;b)|(c+d)|e", "abcde", 1, 3, 4, 8, 16);
        due("concurrentPairs", x.concurrentPairs(0), 8);
        due("no pair", x.addConflict(0, 0, 4), 1);
        due("all concurrent", Make.parsed("a|b|c|d|e|f|a|b", "0").concurrentPairs(0), 28);
    }

    private static void oneCopyForEachMaximalOne() {
        sentence("Process language: there is one copy of Q for each maximal configuration of P");
        dueEvents("0;a", "a", 1);
        dueEvents("a|0;b", "ab", 1, 2);
        dueEvents("a|b|0;(c;d)", "abcd", 1, 2, 4, 12);
        dueEvents("(a|b);c", "abc", 1, 2, 7);
        dueEvents("(a+b);c", "abcc", 1, 2, 5, 10);
        dueEvents("(a+0);c", "ac", 1, 3);
        dueEvents("(a+b+c+d);e", "abcdeeee", 1, 2, 4, 8, 17, 34, 68, 136);
        EventStructures x = dueEvents("((a+b)|(c+d));e", "abcdeeee", 1, 2, 4, 8, 16 + 5, 32 + 6, 64 + 9, 128 + 10);
        due("no pair between copies", x.addConflict(0, 4, 5), 1);
        due("but copies in conflict", x.areInConflict(0, 6, 7), 1);
    }

    private static void orderOfCopies() {
        sentence("Process language: in increasing order of the configurations as numbers");
        dueEvents("(a|b+c);d", "abcdd", 1, 2, 4, 8 + 3, 16 + 4);
        dueEvents("(a+b|c);d", "abcdd", 1, 2, 4, 8 + 1, 16 + 6);
        dueEvents("(c|(a+b));d", "cabdd", 1, 2, 4, 8 + 3, 16 + 5);
        dueEvents("((a+b)|c);d", "abcdd", 1, 2, 4, 8 + 5, 16 + 6);
    }

    private static void eachEventIsADirectCause() {
        sentence("Process language: each event of the configuration is a direct cause of each event of that copy");
        EventStructures x = dueEvents("a;b;(c;d)", "abcd", 1, 3, 7, 15);
        due("0 and 1", x.addCause(0, 0, 1), 0);
        due("0 and 2", x.addCause(0, 0, 2), 0);
        due("0 and 3", x.addCause(0, 0, 3), 0);
        due("1 and 3", x.addCause(0, 1, 3), 0);
        due("2 and 3", x.addCause(0, 2, 3), 0);
        x = dueEvents("(a+b);(c;d)", "abcdcd", 1, 2, 4 + 1, 8 + 4 + 1, 16 + 2, 32 + 16 + 2);
        due("1 and the last one", x.addCause(0, 1, 5), 0);
        due("0 and the last one", x.addCause(0, 0, 5), 1);
    }

    private static void copiesAreWhole() {
        sentence("Process language: there is one copy of Q, with its own pairs");
        EventStructures x = dueEvents("(a+b);(c+d)", "abcdcd", 1, 2, 4 + 1, 8 + 1, 16 + 2, 32 + 2);
        due("the conflict pair of the first copy", x.addConflict(0, 2, 3), 0);
        due("the conflict pair of the second copy", x.addConflict(0, 4, 5), 0);
        due("no conflict pair between them", x.addConflict(0, 3, 4), 1);
    }

    private static void fromLeftToRight() {
        sentence("Process language: All operators are evaluated from the left to the right");
        dueEvents("(a+b);c;d", "abccdd", 1, 2, 4 + 1, 8 + 2, 16 + 5, 32 + 10);
        dueEvents("(a+b);(c;d)", "abcdcd", 1, 2, 4 + 1, 8 + 5, 16 + 2, 32 + 18);
        dueEvents("a;(b+c);d", "abcdd", 1, 3, 5, 8 + 3, 16 + 5);
    }

    private static void whatBindsTighter() {
        sentence("Process language: choice of parallels, parallel of sequences, sequence of atoms");
        EventStructures x = dueEvents("a+b|c;d", "abcd", 1, 2, 4, 12);
        due("a and d", x.areInConflict(0, 0, 3), 1);
        due("b and c", x.areInConflict(0, 1, 2), 0);
        x = dueEvents("a;b|c+d", "abcd", 1, 3, 4, 8);
        due("b and d", x.areInConflict(0, 1, 3), 1);
        due("c and d", x.areInConflict(0, 2, 3), 1);
        due("a and c", x.areInConflict(0, 0, 2), 0);
        dueEvents("(a+b|c);d", "abcdd", 1, 2, 4, 9, 22);
        dueEvents("a|(b;(c+d))", "abcd", 1, 2, 6, 10);
    }

    private static void numbersOfOperands() {
        sentence("Process language: The events of the left operand keep their numbers, and the events of the right "
                + "operand, or of its copies, get the next numbers in their order");
        dueEvents("f|e|d|c|b|a|f|e", "fedcbafe", 1, 2, 4, 8, 16, 32, 64, 128);
        dueEvents("(f;e)+(d;c)", "fedc", 1, 3, 4, 12);
        dueEvents("a|(b+c);d", "abcdd", 1, 2, 4, 8 + 2, 16 + 4);
        dueEvents("(a+b);(c;(d+e))", "abcdecde", 1, 2, 5, 13, 21, 34, 98, 162);
    }

    private static void durationsOfTexts() {
        sentence("Process language: The duration of all events is 1");
        EventStructures x = new EventStructures();
        for (int e = 0; e < 8; e++) {
            x.addEvent(0, 0, LONGEST);
        }
        due("parse", Make.parse(x, 0, "(a+b);(c;d;e)"), 8);
        due("totalTime", x.totalTime(0, 1 + 4 + 8 + 16), 4);
        due("shortestTime", x.shortestTime(0, 1 + 4 + 8 + 16), 4);
        due("of the copy", x.totalTime(0, 2 + 32 + 64 + 128), 4);
    }

    private static void manyTexts() {
        sentence("42: Parses the text, as often as it is called");
        EventStructures x = new EventStructures();
        for (int i = 0; i < 200; i++) {
            due("a short text", Make.parse(x, 0, i % 2 == 0 ? "a" : "0"), 1 - i % 2);
        }
        due("a longer text", Make.parse(x, 1, "a;(b+c)|d"), 4);
        due("maximalCount", x.maximalCount(1), 2);
        x = new EventStructures();
        for (int i = 0; i < 20; i++) {
            due("a text that ends too early", Make.parse(x, 0, "0|(0+((a|b|c);(d|(e;f;"), -122);
            due("nothing is left of it", x.eventCount(0), 0);
        }
        x = new EventStructures();
        for (int i = 0; i < 16; i++) {
            due("a text that is too large", Make.parse(x, 0, "0+(0|((a+b);(c;(d;(e;f)))))"), TOO_LARGE);
        }
        due("a text that is not", Make.parse(x, 0, "(a+b);c"), 4);
        due("history", x.history(0, 3), 10);
    }

    private static void structuresThatAreReplaced() {
        sentence("42: replaces a structure by the one that it describes");
        EventStructures x = Make.chain(0, 8);
        x.addEvent(1, 4, 0);
        due("parse", Make.parse(x, 0, "a|b"), 2);
        due("no pair from before", x.concurrentPairs(0), 1);
        due("the other structure", x.label(1, 0), 4);
        due("a text too large", Make.parse(x, 0, "a|a|a|a|a|a|a|a|a"), TOO_LARGE);
        due("unchanged", x.label(0, 1), 1);
        due("an error", Make.parse(x, 0, "c+"), -102);
        due("unchanged", x.label(0, 0), 0);
        due("unchanged", x.eventCount(0), 2);
    }

    public static void main(String[] args) {
        codesThatAreTaken();
        codesThatAreRefused();
        fortyCharacters();
        outOfRangeBeforeFull();
        refusedCharactersAreNotAppended();
        textIsEmptyAfterwards();
        emptyText();
        charactersAtTheBeginning();
        charactersAfterAnAtom();
        charactersAfterAnOperator();
        charactersInParentheses();
        noSpaces();
        firstErrorCounts();
        longestTexts();
        errorBeforeSize();
        noStructureBeforeAll();
        eightEventsOrNine();
        partsThatAreTooLarge();
        letters();
        nothing();
        choices();
        parallels();
        oneCopyForEachMaximalOne();
        orderOfCopies();
        eachEventIsADirectCause();
        copiesAreWhole();
        fromLeftToRight();
        whatBindsTighter();
        numbersOfOperands();
        durationsOfTexts();
        manyTexts();
        structuresThatAreReplaced();
        Checks.finish();
    }
}
