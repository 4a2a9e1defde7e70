import java.math.BigInteger;

/** Both sides of every boundary that the promises 37 to 53 name: pattern, statistics, undo, snapshot and tables. */
public final class Boundary37to53Test {
    private static final String[] ZEROS_256 = {"createTable(0, 0, 256)", "importTable(0, 0)"};

    public static void main(String[] args) throws Exception {
        Ask.run(Boundary37to53Test.class, 37, 53);
    }

    // Promise 37: appendPattern.

    @Says("the letter, 0 to k - 1, or -1 for any letter")
    static void promise37_elements(Ask ask) {
        ask.busy().keeps("appendPattern(-2) -> BAD_ARGUMENT", "appendPattern(3) -> BAD_ARGUMENT", "appendPattern(MIN) -> BAD_ARGUMENT",
            "appendPattern(MAX) -> BAD_ARGUMENT");
        ask.busy().does("appendPattern(-1) -> 3", "appendPattern(0) -> 4", "appendPattern(2) -> 5");
        ask.scene().keeps("appendPattern(2) -> BAD_ARGUMENT").does("appendPattern(1) -> 1");
        ask.scene("configure(4, 1)").keeps("appendPattern(4) -> BAD_ARGUMENT").does("appendPattern(3) -> 1");
    }

    @Says("FULL if the pattern has 8 elements")
    static void promise37_eightElements(Ask ask) {
        ask.scene("letters(01)", "elements(0 1 0 1 0 1 0)").does("appendPattern(1) -> 8")
            .keeps("appendPattern(0) -> FULL", "appendPattern(-1) -> FULL", "patternCount() -> 1")
            .does("clearPattern() -> 8", "appendPattern(0) -> 1");
    }

    @Says("If several errors apply, the one that is listed first is returned.")
    static void promise37_badElementIntoTheFullPattern(Ask ask) {
        ask.scene("elements(0 0 0 0 0 0 0 0)").keeps("appendPattern(2) -> BAD_ARGUMENT", "appendPattern(-2) -> BAD_ARGUMENT",
            "appendPattern(MIN) -> BAD_ARGUMENT", "appendPattern(1) -> FULL");
    }

    // Promise 38: clearPattern.

    @Says("Returns the previous length of the pattern.")
    static void promise38_zeroToEight(Ask ask) {
        ask.scene().keeps("clearPattern() -> 0");
        ask.busy().does("clearPattern() -> 2", "clearPattern() -> 0", "patternCount() -> 5", "undoCount() -> 5");
        ask.scene("elements(-1 -1 -1 -1 -1 -1 -1 -1)").does("clearPattern() -> 8", "clearPattern() -> 0");
    }

    @Says("configure and restore make the pattern empty.")
    static void promise38_emptiedElsewhere(Ask ask) {
        ask.busy("configure(3, 2)").keeps("clearPattern() -> 0");
        ask.busy("restore()").keeps("clearPattern() -> 0");
        ask.busy("undo()", "configure(1, 2)").does("clearPattern() -> 2");
    }

    // Promise 39: patternCount.

    @Says("The empty pattern matches at every position.")
    static void promise39_theEmptyPattern(Ask ask) {
        ask.scene("letters(01011)").keeps("patternCount() -> 5");
        ask.scene(ZEROS_256).keeps("patternCount() -> 256");
        ask.scene("letters(1)").keeps("patternCount() -> 1");
    }

    @Says("Returns the number of positions at which the pattern matches.")
    static void promise39_theEmptySequence(Ask ask) {
        ask.scene().keeps("patternCount() -> 0");
        ask.scene("elements(-1)").keeps("patternCount() -> 0");
        ask.scene("elements(0 1)").keeps("patternCount() -> 0");
    }

    @Says("An element is a letter, or -1 for any letter.")
    static void promise39_anyLetter(Ask ask) {
        ask.scene("letters(01101)", "elements(-1 -1 -1 -1 -1 -1 -1 -1)").keeps("patternCount() -> 5");
        ask.scene("letters(01101)", "elements(-1 0)").keeps("patternCount() -> 2");
        ask.busy().keeps("patternCount() -> 2");
    }

    @Says("the letter at position (i + j) modulo the length is this element")
    static void promise39_roundTheEnd(Ask ask) {
        // 100 stands round the end alone: positions 4, 0 and 1.
        ask.scene("letters(00101)", "elements(1 0 0)").keeps("patternCount() -> 1", "patternPosition(0) -> 4");
        ask.scene("letters(00101)", "elements(1 0 1)").keeps("patternCount() -> 1", "patternPosition(0) -> 2");
    }

    @Says("and a pattern may go round the sequence more than once")
    static void promise39_longerThanTheSequence(Ask ask) {
        ask.scene("letters(01)", "elements(1 0 1 0 1 0 1 0)").keeps("patternCount() -> 1", "patternPosition(0) -> 1");
        ask.scene("letters(01)", "elements(1 0 1 0 1 0 1 1)").keeps("patternCount() -> 0");
        ask.scene("letters(1)", "elements(1 1 1 1 1 1 1 1)").keeps("patternCount() -> 1");
        ask.scene("letters(1)", "elements(1 1 1 1 1 1 1 0)").keeps("patternCount() -> 0");
    }

    // Promise 40: patternPosition.

    @Says({"the index in ascending order of these positions, from 0", "Returns the position, or NONE if there is no such index."})
    static void promise40_indices(Ask ask) {
        ask.busy().keeps("patternPosition(-1) -> NONE", "patternPosition(0) -> 2", "patternPosition(1) -> 3", "patternPosition(2) -> NONE",
            "patternPosition(MIN) -> NONE", "patternPosition(MAX) -> NONE");
        ask.scene(ZEROS_256).keeps("patternPosition(0) -> 0", "patternPosition(255) -> 255", "patternPosition(256) -> NONE");
    }

    @Says("NONE if there is no such index")
    static void promise40_noMatch(Ask ask) {
        ask.scene().keeps("patternPosition(0) -> NONE", "patternPosition(-1) -> NONE");
        ask.scene("letters(000)", "elements(1)").keeps("patternPosition(0) -> NONE");
        ask.scene("letters(001)", "elements(1)").keeps("patternPosition(0) -> 2", "patternPosition(1) -> NONE");
    }

    // Promise 41: countModulo.

    @Says("the modulus, 2 to 1000000000")
    static void promise41_moduli(Ask ask) {
        // 2!^3 times 3^1.
        ask.busy().keeps("countModulo(1) -> BAD_ARGUMENT", "countModulo(2) -> 0", "countModulo(23) -> 1", "countModulo(24) -> 0",
            "countModulo(25) -> 24", "countModulo(1000000000) -> 24", "countModulo(1000000001) -> BAD_ARGUMENT", "countModulo(0) -> BAD_ARGUMENT",
            "countModulo(-1) -> BAD_ARGUMENT", "countModulo(-2) -> BAD_ARGUMENT", "countModulo(MIN) -> BAD_ARGUMENT", "countModulo(MAX) -> BAD_ARGUMENT");
    }

    @Says({"It is ((k-1)!)^(k^(n-1)) times k^(k^(n-1) - n).", "Remainders are those of the true numbers."})
    static void promise41_leastAndGreatestShapes(Ask ask) {
        ask.scene("configure(2, 1)").keeps("countModulo(2) -> 1", "countModulo(1000000000) -> 1");
        ask.scene("configure(2, 2)").keeps("countModulo(2) -> 1", "countModulo(1000000000) -> 1");
        ask.scene("configure(2, 6)").keeps("countModulo(2) -> 0", "countModulo(67108864) -> 0", "countModulo(67108865) -> 67108864",
            "countModulo(67108863) -> 1");
        ask.scene("configure(3, 1)").keeps("countModulo(2) -> 0", "countModulo(3) -> 2");
        ask.scene("configure(4, 1)").keeps("countModulo(6) -> 0", "countModulo(7) -> 6");
        BigInteger three = BigInteger.TWO.pow(81).multiply(BigInteger.valueOf(3).pow(76));
        BigInteger four = BigInteger.valueOf(6).pow(64).multiply(BigInteger.valueOf(4).pow(60));
        for (int modulus : new int[] {2, 7, 65537, 999999937, 999999999, 1000000000}) {
            BigInteger by = BigInteger.valueOf(modulus);
            ask.scene("configure(3, 5)").keeps("countModulo(" + modulus + ") -> " + three.mod(by));
            ask.scene("configure(4, 4)").keeps("countModulo(" + modulus + ") -> " + four.mod(by));
        }
    }

    // Promise 42: runCount.

    @Says("the letter, 0 to k - 1")
    static void promise42_letters(Ask ask) {
        ask.busy().keeps("runCount(-1, 1) -> BAD_ARGUMENT", "runCount(0, 1) -> 1", "runCount(2, 1) -> 2", "runCount(3, 1) -> BAD_ARGUMENT",
            "runCount(MIN, 1) -> BAD_ARGUMENT", "runCount(MAX, 1) -> BAD_ARGUMENT");
        ask.scene("letters(01)").keeps("runCount(1, 1) -> 1", "runCount(2, 1) -> BAD_ARGUMENT");
        ask.scene("configure(4, 1)", "letters(3)").keeps("runCount(3, 1) -> 1", "runCount(4, 1) -> BAD_ARGUMENT");
    }

    @Says("the number of positions of the run, 1 to 256")
    static void promise42_runLengths(Ask ask) {
        ask.busy().keeps("runCount(1, 0) -> BAD_ARGUMENT", "runCount(1, 1) -> 0", "runCount(1, 2) -> 1", "runCount(1, 3) -> 0",
            "runCount(1, 256) -> 0", "runCount(1, 257) -> BAD_ARGUMENT", "runCount(1, -1) -> BAD_ARGUMENT", "runCount(1, MIN) -> BAD_ARGUMENT",
            "runCount(1, MAX) -> BAD_ARGUMENT", "runCount(3, 0) -> BAD_ARGUMENT");
    }

    @Says("If all letters of the sequence are equal, there is exactly one run, which has all positions.")
    static void promise42_allLettersEqual(Ask ask) {
        ask.scene("letters(1)").keeps("runCount(1, 1) -> 1", "runCount(1, 2) -> 0", "runCount(0, 1) -> 0");
        ask.scene("letters(111)").keeps("runCount(1, 3) -> 1", "runCount(1, 2) -> 0", "runCount(1, 1) -> 0", "runCount(1, 4) -> 0", "runCount(0, 3) -> 0");
        ask.scene(ZEROS_256).keeps("runCount(0, 256) -> 1", "runCount(0, 255) -> 0", "runCount(1, 256) -> 0")
            .does("setLetter(9, 1) -> 0", "runCount(0, 255) -> 1", "runCount(0, 256) -> 0", "runCount(1, 1) -> 1");
    }

    @Says("A run is a maximal sequence of cyclically adjacent positions with the same letter.")
    static void promise42_roundTheEnd(Ask ask) {
        ask.scene("letters(0100)").keeps("runCount(0, 3) -> 1", "runCount(0, 1) -> 0", "runCount(0, 2) -> 0", "runCount(1, 1) -> 1");
        ask.scene("letters(0110)").keeps("runCount(0, 2) -> 1", "runCount(0, 1) -> 0", "runCount(1, 2) -> 1");
        ask.scene("letters(01)").keeps("runCount(0, 1) -> 1", "runCount(1, 1) -> 1");
        ask.scene("letters(0101)").keeps("runCount(0, 1) -> 2", "runCount(1, 1) -> 2");
        ask.scene("letters(0010)").keeps("runCount(0, 3) -> 1", "runCount(0, 2) -> 0", "runCount(0, 1) -> 0");
    }

    @Says("Returns the number of runs of this letter with this number of positions")
    static void promise42_empty(Ask ask) {
        ask.scene().keeps("runCount(0, 1) -> 0", "runCount(1, 256) -> 0", "runCount(2, 1) -> BAD_ARGUMENT", "runCount(0, 0) -> BAD_ARGUMENT");
    }

    // Promise 43: discrepancy.

    @Says({"the letter, 0 to k - 1", "Returns the discrepancy, or BAD_ARGUMENT."})
    static void promise43_letters(Ask ask) {
        // For 02112: d is 0 2 1 0 -1 -2 for 0, 0 -1 -2 0 2 1 for 1 and 0 -1 1 0 -1 1 for 2.
        ask.busy().keeps("discrepancy(-1) -> BAD_ARGUMENT", "discrepancy(0) -> 4", "discrepancy(1) -> 4", "discrepancy(2) -> 2",
            "discrepancy(3) -> BAD_ARGUMENT", "discrepancy(MIN) -> BAD_ARGUMENT", "discrepancy(MAX) -> BAD_ARGUMENT");
        ask.scene().keeps("discrepancy(2) -> BAD_ARGUMENT");
        ask.scene("configure(4, 1)").keeps("discrepancy(3) -> 0", "discrepancy(4) -> BAD_ARGUMENT");
    }

    @Says("The discrepancy is the maximum minus the minimum of d(0), d(1), .., d(length).")
    static void promise43_firstAndLastValue(Ask ask) {
        ask.scene().keeps("discrepancy(0) -> 0", "discrepancy(1) -> 0");
        ask.scene("letters(0)").keeps("discrepancy(0) -> 1", "discrepancy(1) -> 1");
        ask.scene("configure(4, 1)", "letters(0)").keeps("discrepancy(0) -> 3", "discrepancy(1) -> 1");
        ask.scene("letters(0011)").keeps("discrepancy(0) -> 2", "discrepancy(1) -> 2");
        ask.scene("letters(00)").keeps("discrepancy(0) -> 2", "discrepancy(1) -> 2");
    }

    @Says("For i from 0 to the length, let d(i) be k times the number of its occurrences at the first i positions, minus i.")
    static void promise43_256Letters(Ask ask) {
        ask.scene(ZEROS_256).keeps("discrepancy(0) -> 256", "discrepancy(1) -> 256");
        ask.scene("configure(4, 4)", "createTable(0, 0, 256)", "importTable(0, 0)").keeps("discrepancy(0) -> 768", "discrepancy(3) -> 256");
    }

    // Promise 44: autocorrelationBits.

    @Says({"the shift, 0 to 256", "BAD_ARGUMENT (checked first)"})
    static void promise44_shifts(Ask ask) {
        ask.scene("letters(01)").keeps("autocorrelationBits(-1) -> BAD_ARGUMENT", "autocorrelationBits(0) -> 1.0", "autocorrelationBits(256) -> 1.0",
            "autocorrelationBits(257) -> BAD_ARGUMENT", "autocorrelationBits(MIN) -> BAD_ARGUMENT", "autocorrelationBits(MAX) -> BAD_ARGUMENT");
        for (String start : new String[] {"configure(2, 3)", "letters(111)"}) {
            ask.scene(start).keeps("autocorrelationBits(-1) -> BAD_ARGUMENT", "autocorrelationBits(257) -> BAD_ARGUMENT",
                "autocorrelationBits(MIN) -> BAD_ARGUMENT", "autocorrelationBits(MAX) -> BAD_ARGUMENT");
        }
    }

    @Says("x(i) the letter at position i modulo L")
    static void promise44_roundTheEnd(Ask ask) {
        ask.scene("letters(01)").keeps("autocorrelationBits(1) -> -1.0", "autocorrelationBits(2) -> 1.0", "autocorrelationBits(3) -> -1.0",
            "autocorrelationBits(255) -> -1.0");
        // The products for 0011 are 0 with shifts 1 and 3, as are those of 00010111 with shift 1.
        ask.scene("letters(0011)").keeps("autocorrelationBits(0) -> 1.0", "autocorrelationBits(1) -> 0.0", "autocorrelationBits(2) -> -1.0",
            "autocorrelationBits(3) -> 0.0", "autocorrelationBits(4) -> 1.0", "autocorrelationBits(254) -> -1.0", "autocorrelationBits(256) -> 1.0");
        ask.scene("construct(1, 0)").keeps("autocorrelationBits(1) -> 0.0", "autocorrelationBits(3) -> -0.5", "autocorrelationBits(8) -> 1.0",
            "autocorrelationBits(11) -> -0.5");
    }

    @Says("Returns the bits of the autocorrelation, as given by Double.doubleToLongBits")
    static void promise44_bits(Ask ask) {
        for (String letters : new String[] {"001", "0111", "012", "0312023", "0000001", "3310", "0000000000000003"}) {
            for (int shift = 0; shift <= 256; shift += shift < 20 ? 1 : 59) {
                ask.scene("configure(4, 2)", "letters(" + letters + ")")
                    .does("autocorrelationBits(" + shift + ") -> " + Double.doubleToLongBits(correlation(letters, shift)));
            }
        }
        ask.scene("configure(4, 2)", "letters(03)", "setLetter(0, 1)").does("autocorrelationBits(1) -> -1.0");
    }

    private static double correlation(String letters, int shift) {
        int length = letters.length();
        double m = (double) letters.chars().map(c -> c - '0').sum() / length;
        double a = 0.0;
        double b = 0.0;
        for (int i = 0; i < length; i++) {
            double x = letters.charAt(i) - '0';
            double y = letters.charAt((i + shift) % length) - '0';
            a += (x - m) * (y - m);
            b += (x - m) * (x - m);
        }
        return a / b;
    }

    @Says("BAD_ARGUMENT (checked first); EMPTY; CONSTANT if all letters are equal.")
    static void promise44_emptyOrConstant(Ask ask) {
        ask.scene().keeps("autocorrelationBits(0) -> EMPTY", "autocorrelationBits(256) -> EMPTY");
        ask.scene("letters(1)").keeps("autocorrelationBits(0) -> CONSTANT", "autocorrelationBits(256) -> CONSTANT");
        ask.scene("letters(000)").keeps("autocorrelationBits(1) -> CONSTANT").does("appendLetter(1) -> 4", "autocorrelationBits(0) -> 1.0");
        ask.scene(ZEROS_256).keeps("autocorrelationBits(0) -> CONSTANT").does("setLetter(255, 1) -> 0", "autocorrelationBits(256) -> 1.0",
            "setLetter(255, 0) -> 1", "setLetter(0, 1) -> 0", "autocorrelationBits(256) -> 1.0");
    }

    // Promise 45: undo.

    @Says("NOTHING_SAVED if there is no edit to undo")
    static void promise45_nothingToUndo(Ask ask) {
        ask.scene().keeps("undo() -> NOTHING_SAVED");
        ask.scene("letters(1)", "undo()").keeps("undo() -> NOTHING_SAVED");
        ask.scene("construct(4, 0)", "appendLetter(2)", "rotate(0)").keeps("undo() -> NOTHING_SAVED");
        ask.scene("elements(1)", "createTable(0, 0, 1)", "writeTable(0, 0, 1)", "signs(greedy)", "save()").keeps("undo() -> NOTHING_SAVED");
    }

    @Says("configure and restore forget all earlier sequences.")
    static void promise45_forgotten(Ask ask) {
        ask.busy("configure(3, 2)").keeps("undo() -> NOTHING_SAVED", "undoCount() -> 0");
        ask.busy("restore()").keeps("undo() -> NOTHING_SAVED", "undoCount() -> 0");
        ask.busy("configure(3, 2)", "letters(1)").does("undo() -> 0", "undo() -> NOTHING_SAVED");
        ask.busy("restore()", "letters(1)").does("undo() -> 3", "sequence -> 011", "undo() -> NOTHING_SAVED");
    }

    @Says("at most 6 edits can be undone, because older sequences are forgotten")
    static void promise45_sixEditsAndSeven(Ask ask) {
        ask.scene("letters(010111)").does("undo() -> 5", "undo() -> 4", "undo() -> 3", "undo() -> 2", "undo() -> 1", "undo() -> 0", "sequence -> ")
            .keeps("undo() -> NOTHING_SAVED");
        ask.scene("letters(0101110)").does("undo() -> 6", "sequence -> 010111", "undo() -> 5", "undo() -> 4", "undo() -> 3", "undo() -> 2",
            "undo() -> 1", "sequence -> 0").keeps("undo() -> NOTHING_SAVED");
    }

    @Says("After 7 edits of which 2 were undone, and a new one, 5 can be undone.")
    static void promise45_sevenEditsTwoUndoneOneNew(Ask ask) {
        ask.scene("letters(0101110)").does("undo() -> 6", "undo() -> 5", "undoCount() -> 4", "complement() -> 1", "sequence -> 10100",
            "undoCount() -> 5", "undo() -> 5", "sequence -> 01011", "undo() -> 4", "sequence -> 0101", "undo() -> 3", "undo() -> 2", "undo() -> 1",
            "sequence -> 0").keeps("undo() -> NOTHING_SAVED");
    }

    @Says("There is no redo.")
    static void promise45_noRedo(Ask ask) {
        ask.scene("letters(01)").does("undo() -> 1", "sequence -> 0", "undo() -> 0", "sequence -> ", "undo() -> NOTHING_SAVED", "sequence -> ",
            "appendLetter(1) -> 1", "undo() -> 0", "sequence -> ");
    }

    @Says("undo changes neither the pattern nor the command nor the tables.")
    static void promise45_leavesTheRest(Ask ask) {
        ask.busy().does("undo() -> 4", "sequence -> 0211", "readTable(0, 0) -> 2", "readTable(0, 2) -> 1", "readTable(1, 1) -> 99",
            "patternCount() -> 2", "patternPosition(0) -> 2", "patternPosition(1) -> 3", "letterCount() -> 3", "order() -> 2",
            "appendCommand('1') -> 8", "runCommand() -> 9", "clearPattern() -> 2", "restore() -> 3", "letterCount() -> 2", "sequence -> 011");
    }

    @Says("Each successful call of construct, runCommand, setLetter, appendLetter, rotate, reverse, complement, cut, exchange and importTable is one edit")
    static void promise45_everyKindOfEdit(Ask ask) {
        String[] edits = {"construct(0, 0) -> 2", "construct(3, 0) -> 2", "runCommand() -> 2", "setLetter(0, 1) -> 0", "appendLetter(0) -> 6",
            "rotate(2) -> 1", "reverse() -> 0", "complement() -> 1", "cut(0, 2) -> 3", "exchange(0, 1, 2, 3) -> 1", "importTable(0, 0) -> 3"};
        for (String edit : edits) {
            ask.scene("configure(2, 1)", "createTable(0, 0, 3)", "signs(joined)", "letters(01100)")
                .does(edit, "undoCount() -> 6", "undo() -> 5", "sequence -> 01100", "undoCount() -> 5");
        }
    }

    @Says("is one edit, even if the sequence stays the same")
    static void promise45_editsThatChangeNothing(Ask ask) {
        String[] edits = {"construct(1, 0) -> 4", "runCommand() -> 4", "setLetter(0, 0) -> 0", "rotate(4) -> 0", "importTable(0, 0) -> 4"};
        for (String edit : edits) {
            ask.scene("configure(2, 2)", "createTable(0, 0, 4)", "signs(lyndon)", "construct(1, 0)", "exportTable(0, 0)")
                .does(edit, "sequence -> 0011", "undoCount() -> 2", "undo() -> 4", "sequence -> 0011", "undoCount() -> 1");
        }
        ask.scene("configure(2, 2)", "letters(0101)").does("exchange(0, 1, 2, 3) -> 0", "undoCount() -> 5", "undo() -> 4", "sequence -> 0101",
            "undoCount() -> 4");
        ask.scene("configure(3, 2)", "letters(11)").does("reverse() -> 1", "complement() -> 1", "undoCount() -> 4", "undo() -> 2", "undo() -> 2",
            "sequence -> 11", "undoCount() -> 2");
    }

    @Says("undo restores the sequence from before the latest edit that is not undone")
    static void promise45_256Letters(Ask ask) {
        ask.scene("configure(4, 4)").does("construct(1, 0) -> 256", "rotate(1) -> 0", "configure(4, 3) -> 64", "construct(1, 0) -> 64",
            "createTable(0, 0, 256)", "importTable(0, 0) -> 256", "undo() -> 64", "isDeBruijn() -> 1", "undo() -> 0");
        ask.scene("configure(4, 4)", "construct(1, 0)", "createTable(0, 0, 0)").does("importTable(0, 0) -> 0", "undo() -> 256", "isDeBruijn() -> 1",
            "letter(0) -> 0", "letter(255) -> 3");
    }

    @Says("at most 6 edits can be undone")
    static void promise45_sixTimes256Letters(Ask ask) {
        DeBruijnWorkbench bench = new DeBruijnWorkbench();
        bench.configure(4, 4);
        bench.construct(0, 0);
        String word = Due.letters(bench);
        // Nine edits: every row that an earlier sequence may be kept in is written with 256 letters.
        Scene scene = ask.scene("configure(4, 4)", "construct(0, 0)", "rotate(1)", "rotate(1)", "rotate(1)", "rotate(1)", "rotate(1)", "rotate(1)", "rotate(1)",
            "rotate(1)");
        for (int shift = 7; shift >= 2; shift--) {
            scene.does("undo() -> 256", "sequence -> " + word.substring(shift) + word.substring(0, shift));
        }
        scene.keeps("undo() -> NOTHING_SAVED");
    }

    // Promise 46: undoCount.

    @Says("Returns the number, 0 to 6.")
    static void promise46_zeroToSix(Ask ask) {
        ask.scene().keeps("undoCount() -> 0");
        ask.scene("letters(01010)").keeps("undoCount() -> 5").does("appendLetter(1) -> 6", "undoCount() -> 6", "appendLetter(1) -> 7", "undoCount() -> 6",
            "undo() -> 6", "undoCount() -> 5");
        ask.scene("letters(01010101010101010101)").keeps("undoCount() -> 6");
    }

    @Says("A call that returns an error code leaves the state unchanged")
    static void promise46_refusedCallsAreNoEdits(Ask ask) {
        ask.busy("construct(4, 0)", "setLetter(5, 0)", "setLetter(0, 3)", "appendLetter(3)", "cut(0, 1)", "cut(0, 0)", "exchange(0, 1, 2, 3)",
            "importTable(0, 1)", "importTable(2, 0)", "writeTable(0, 1, 7)", "importTable(0, 0)", "runCommand()").keeps("undoCount() -> 5");
        ask.scene("rotate(1)", "reverse()", "complement()", "undo()").keeps("undoCount() -> 0");
    }

    // Promise 47: save.

    @Says({"Saves a snapshot of k, n and the sequence.", "Returns the length of the sequence."})
    static void promise47_emptyAndFull(Ask ask) {
        ask.scene().does("save() -> 0", "letters(1)", "restore() -> 0", "sequence -> ");
        ask.scene("configure(4, 4)", "construct(1, 0)").does("save() -> 256", "configure(2, 1) -> 2", "restore() -> 256", "letterCount() -> 4",
            "order() -> 4", "isDeBruijn() -> 1", "letter(255) -> 3");
        ask.scene("configure(2, 6)").does("save() -> 0", "configure(4, 1) -> 4", "restore() -> 0", "letterCount() -> 2", "order() -> 6");
    }

    @Says("An earlier snapshot is replaced.")
    static void promise47_replaced(Ask ask) {
        ask.busy().does("save() -> 5", "configure(2, 1) -> 2", "restore() -> 5", "letterCount() -> 3", "order() -> 2", "sequence -> 02112");
        ask.busy().does("configure(4, 4) -> 256", "save() -> 0", "restore() -> 0", "letterCount() -> 4", "order() -> 4", "sequence -> ");
    }

    @Says("Saves a snapshot of k, n and the sequence.")
    static void promise47_noEditAndNothingElse(Ask ask) {
        ask.busy().does("save() -> 5", "undoCount() -> 5", "patternCount() -> 2", "readTable(0, 0) -> 2", "undo() -> 4", "sequence -> 0211",
            "appendCommand('1') -> 8", "runCommand() -> 9", "clearPattern() -> 2");
        ask.scene("letters(01)", "save()", "setLetter(0, 1)", "complement()").does("restore() -> 2", "sequence -> 01");
    }

    // Promise 48: restore.

    @Says("NOTHING_SAVED if there is no snapshot")
    static void promise48_noSnapshot(Ask ask) {
        ask.scene("letters(01)", "elements(1)", "signs(joined:)", "createTable(0, 0, 1)").keeps("restore() -> NOTHING_SAVED")
            .does("save() -> 2", "restore() -> 2");
        ask.scene("configure(4, 4)").keeps("restore() -> NOTHING_SAVED");
    }

    @Says({"Restores the snapshot, which is kept, makes the pattern empty, and forgets all earlier sequences."})
    static void promise48_keptTwiceAndForgets(Ask ask) {
        ask.busy().does("restore() -> 3", "letterCount() -> 2", "order() -> 3", "sequence -> 011", "undoCount() -> 0", "undo() -> NOTHING_SAVED",
            "clearPattern() -> 0", "appendLetter(2) -> BAD_ARGUMENT", "appendLetter(0) -> 4", "appendPattern(2) -> BAD_ARGUMENT", "restore() -> 3",
            "sequence -> 011", "undoCount() -> 0");
    }

    @Says("Restores the snapshot")
    static void promise48_leavesCommandAndTables(Ask ask) {
        ask.busy().does("restore() -> 3", "readTable(0, 0) -> 2", "readTable(0, 2) -> 1", "readTable(0, 3) -> OUT_OF_BOUNDS", "readTable(1, 1) -> 99",
            "appendCommand('1') -> 8", "runCommand() -> 8", "sequence -> 00011101");
    }

    // Promise 49: createTable.

    @Says({"the table, 0 or 1", "BAD_ARGUMENT if table or type is out of range or length is above 256"})
    static void promise49_tables(Ask ask) {
        ask.busy().keeps("createTable(-1, 0, 1) -> BAD_ARGUMENT", "createTable(2, 0, 1) -> BAD_ARGUMENT", "createTable(MIN, 0, 1) -> BAD_ARGUMENT",
            "createTable(MAX, 0, 1) -> BAD_ARGUMENT");
        ask.scene().does("createTable(0, 0, 1) -> 1", "readTable(0, 0) -> 0", "readTable(1, 0) -> MISSING_TABLE");
        ask.scene().does("createTable(1, 0, 1) -> 1", "readTable(1, 0) -> 0", "readTable(0, 0) -> MISSING_TABLE");
    }

    @Says("0 for byte, 1 for char")
    static void promise49_types(Ask ask) {
        ask.busy().keeps("createTable(0, -1, 1) -> BAD_ARGUMENT", "createTable(0, 2, 1) -> BAD_ARGUMENT", "createTable(1, MIN, 1) -> BAD_ARGUMENT",
            "createTable(1, MAX, 1) -> BAD_ARGUMENT");
        ask.scene().does("createTable(0, 0, 1) -> 1", "writeTable(0, 0, -1) -> 1", "readTable(0, 0) -> -1");
        ask.scene().does("createTable(0, 1, 1) -> 1", "writeTable(0, 0, -1) -> 1", "readTable(0, 0) -> 65535");
    }

    @Says({"the number of elements, at most 256", "NEGATIVE_LENGTH."})
    static void promise49_lengths(Ask ask) {
        ask.busy().keeps("createTable(0, 0, -1) -> NEGATIVE_LENGTH", "createTable(1, 1, -1) -> NEGATIVE_LENGTH", "createTable(0, 0, MIN) -> NEGATIVE_LENGTH",
            "createTable(0, 0, 257) -> BAD_ARGUMENT", "createTable(1, 1, 257) -> BAD_ARGUMENT", "createTable(0, 0, MAX) -> BAD_ARGUMENT");
        ask.scene().keeps("createTable(0, 0, -1) -> NEGATIVE_LENGTH", "createTable(0, 0, 257) -> BAD_ARGUMENT");
        ask.scene().does("createTable(0, 0, 0) -> 1", "readTable(0, 0) -> OUT_OF_BOUNDS");
        ask.scene().does("createTable(0, 0, 1) -> 1", "readTable(0, 0) -> 0", "readTable(0, 1) -> OUT_OF_BOUNDS");
        ask.scene().does("createTable(0, 0, 256) -> 1", "readTable(0, 255) -> 0", "readTable(0, 256) -> OUT_OF_BOUNDS");
        ask.scene().does("createTable(1, 1, 256) -> 1", "readTable(1, 255) -> 0", "readTable(1, 256) -> OUT_OF_BOUNDS");
    }

    @Says("If several errors apply, the one that is listed first is returned.")
    static void promise49_badArgumentAndNegativeLength(Ask ask) {
        ask.busy().keeps("createTable(2, 0, -1) -> BAD_ARGUMENT", "createTable(-1, 0, MIN) -> BAD_ARGUMENT", "createTable(0, 2, -1) -> BAD_ARGUMENT",
            "createTable(0, -1, MIN) -> BAD_ARGUMENT");
    }

    @Says("Replaces a table by a new one that is filled with 0.")
    static void promise49_replaced(Ask ask) {
        ask.busy().does("createTable(0, 0, 3) -> 1", "readTable(0, 0) -> 0", "readTable(0, 2) -> 0", "readTable(1, 0) -> 98", "undoCount() -> 5");
        ask.busy().does("createTable(0, 1, 2) -> 1", "readTable(0, 0) -> 0", "readTable(0, 2) -> OUT_OF_BOUNDS", "createTable(0, 0, 3) -> 1",
            "readTable(0, 2) -> 0");
        ask.busy().does("createTable(1, 0, 0) -> 1", "readTable(1, 0) -> OUT_OF_BOUNDS", "readTable(0, 0) -> 2", "importTable(1, 1) -> WRONG_TYPE",
            "createTable(1, 1, 256) -> 1", "readTable(1, 0) -> 0", "readTable(1, 255) -> 0");
    }

    // Promise 50: writeTable.

    @Says({"the table, 0 or 1", "BAD_ARGUMENT if table is out of range"})
    static void promise50_tables(Ask ask) {
        ask.busy().keeps("writeTable(-1, 0, 1) -> BAD_ARGUMENT", "writeTable(2, 0, 1) -> BAD_ARGUMENT", "writeTable(MIN, 0, 1) -> BAD_ARGUMENT",
            "writeTable(MAX, 0, 1) -> BAD_ARGUMENT");
        ask.busy().does("writeTable(0, 0, 7) -> 1", "readTable(0, 0) -> 7", "readTable(1, 0) -> 98", "writeTable(1, 0, 8) -> 1", "readTable(1, 0) -> 8",
            "readTable(0, 0) -> 7");
    }

    @Says({"BAD_ARGUMENT if table is out of range; MISSING_TABLE; OUT_OF_BOUNDS.", "The table is missing."})
    static void promise50_missingTables(Ask ask) {
        ask.scene().keeps("writeTable(0, 0, 1) -> MISSING_TABLE", "writeTable(1, 0, 1) -> MISSING_TABLE", "writeTable(0, -1, 1) -> MISSING_TABLE",
            "writeTable(0, MAX, 1) -> MISSING_TABLE", "writeTable(2, -1, 1) -> BAD_ARGUMENT", "writeTable(-1, 0, 1) -> BAD_ARGUMENT");
        ask.scene("createTable(0, 0, 1)").keeps("writeTable(1, 0, 1) -> MISSING_TABLE").does("writeTable(0, 0, 1) -> 1");
    }

    @Says("A table index is out of bounds.")
    static void promise50_indices(Ask ask) {
        ask.busy().keeps("writeTable(0, -1, 1) -> OUT_OF_BOUNDS", "writeTable(0, 3, 1) -> OUT_OF_BOUNDS", "writeTable(0, MIN, 1) -> OUT_OF_BOUNDS",
            "writeTable(0, MAX, 1) -> OUT_OF_BOUNDS", "writeTable(1, 2, 1) -> OUT_OF_BOUNDS", "writeTable(1, -1, 1) -> OUT_OF_BOUNDS",
            "writeTable(2, 3, 1) -> BAD_ARGUMENT");
        ask.busy().does("writeTable(0, 0, 9) -> 1", "writeTable(0, 2, 8) -> 1", "readTable(0, 0) -> 9", "readTable(0, 1) -> 0", "readTable(0, 2) -> 8");
        ask.scene("createTable(0, 0, 0)").keeps("writeTable(0, 0, 1) -> OUT_OF_BOUNDS", "writeTable(0, -1, 1) -> OUT_OF_BOUNDS");
        ask.scene("createTable(0, 1, 256)").keeps("writeTable(0, 256, 1) -> OUT_OF_BOUNDS").does("writeTable(0, 255, 7) -> 1", "readTable(0, 255) -> 7");
        // A table that was longer before has no room behind its end.
        ask.scene("createTable(0, 0, 9)", "createTable(0, 0, 2)").keeps("writeTable(0, 2, 1) -> OUT_OF_BOUNDS");
    }

    @Says("In a byte table the low-order 8 bits of the value are stored, with sign")
    static void promise50_bytes(Ask ask) {
        String[][] rows = {{"127", "127"}, {"128", "-128"}, {"255", "-1"}, {"256", "0"}, {"257", "1"}, {"-1", "-1"}, {"-128", "-128"}, {"-129", "127"},
            {"-256", "0"}, {"MIN", "0"}, {"MAX", "-1"}, {"65535", "-1"}, {"383", "127"}, {"384", "-128"}};
        for (String[] row : rows) {
            ask.busy().does("writeTable(0, 1, " + row[0] + ") -> 1", "readTable(0, 1) -> " + row[1], "readTable(0, 0) -> 2", "readTable(0, 2) -> 1");
        }
    }

    @Says("in a char table the low-order 16 bits, without sign")
    static void promise50_chars(Ask ask) {
        String[][] rows = {{"127", "127"}, {"128", "128"}, {"255", "255"}, {"256", "256"}, {"32767", "32767"}, {"32768", "32768"}, {"65535", "65535"},
            {"65536", "0"}, {"65537", "1"}, {"-1", "65535"}, {"-32768", "32768"}, {"-65536", "0"}, {"-65537", "65535"}, {"MIN", "0"}, {"MAX", "65535"}};
        for (String[] row : rows) {
            ask.busy().does("writeTable(1, 1, " + row[0] + ") -> 1", "readTable(1, 1) -> " + row[1], "readTable(1, 0) -> 98");
        }
    }

    // Promise 51: readTable.

    @Says({"the table, 0 or 1", "BAD_ARGUMENT if table is out of range; MISSING_TABLE; OUT_OF_BOUNDS."})
    static void promise51_tables(Ask ask) {
        ask.busy().keeps("readTable(-1, 0) -> BAD_ARGUMENT", "readTable(0, 0) -> 2", "readTable(1, 0) -> 98", "readTable(2, 0) -> BAD_ARGUMENT",
            "readTable(MIN, 0) -> BAD_ARGUMENT", "readTable(MAX, 0) -> BAD_ARGUMENT", "readTable(2, -1) -> BAD_ARGUMENT");
        ask.scene().keeps("readTable(0, -1) -> MISSING_TABLE", "readTable(1, MAX) -> MISSING_TABLE", "readTable(2, 0) -> BAD_ARGUMENT");
        ask.scene("createTable(1, 0, 1)").keeps("readTable(0, 0) -> MISSING_TABLE", "readTable(1, 0) -> 0");
    }

    @Says("A table index is out of bounds.")
    static void promise51_indices(Ask ask) {
        ask.busy().keeps("readTable(0, -1) -> OUT_OF_BOUNDS", "readTable(0, 2) -> 1", "readTable(0, 3) -> OUT_OF_BOUNDS", "readTable(1, 1) -> 99",
            "readTable(1, 2) -> OUT_OF_BOUNDS", "readTable(0, MIN) -> OUT_OF_BOUNDS", "readTable(0, MAX) -> OUT_OF_BOUNDS");
        ask.scene("createTable(0, 0, 256)").keeps("readTable(0, 0) -> 0", "readTable(0, 255) -> 0", "readTable(0, 256) -> OUT_OF_BOUNDS");
        ask.scene("createTable(0, 0, 0)").keeps("readTable(0, 0) -> OUT_OF_BOUNDS", "readTable(0, -1) -> OUT_OF_BOUNDS");
        ask.scene("createTable(0, 0, 9)", "createTable(0, 0, 2)").keeps("readTable(0, 1) -> 0", "readTable(0, 2) -> OUT_OF_BOUNDS");
    }

    @Says("Returns the element, which may have the same value as an error code")
    static void promise51_elementsLikeErrorCodes(Ask ask) {
        for (int value : new int[] {-1, -2, -11, -12, -13, -14, -128, 127}) {
            ask.busy("writeTable(0, 1, " + value + ")").keeps("readTable(0, 1) -> " + value);
        }
    }

    // Promise 52: exportTable.

    @Says({"the table, 0 or 1", "BAD_ARGUMENT if table is out of range; MISSING_TABLE"})
    static void promise52_tables(Ask ask) {
        ask.busy().keeps("exportTable(-1, 0) -> BAD_ARGUMENT", "exportTable(2, 0) -> BAD_ARGUMENT", "exportTable(MIN, 0) -> BAD_ARGUMENT",
            "exportTable(MAX, 0) -> BAD_ARGUMENT", "exportTable(2, MAX) -> BAD_ARGUMENT");
        ask.scene("letters(01)").keeps("exportTable(0, 0) -> MISSING_TABLE", "exportTable(1, 0) -> MISSING_TABLE", "exportTable(0, -1) -> MISSING_TABLE",
            "exportTable(1, MAX) -> MISSING_TABLE");
        ask.scene("letters(01)", "createTable(1, 0, 2)").keeps("exportTable(0, 0) -> MISSING_TABLE").does("exportTable(1, 0) -> 2", "readTable(1, 1) -> 1");
    }

    @Says({"the index for position 0", "OUT_OF_BOUNDS if an index is out of bounds, in which case the elements before this one are set all the same"})
    static void promise52_theLastPlaceThatFits(Ask ask) {
        String[] start = {"configure(4, 1)", "letters(312)", "createTable(0, 0, 5)", "createTable(1, 1, 5)"};
        ask.scene(start).does("exportTable(0, 0) -> 3").same(ask.scene(start).does("writeTable(0, 0, 3)", "writeTable(0, 1, 1)", "writeTable(0, 2, 2)"));
        ask.scene(start).does("exportTable(0, 2) -> 3").same(ask.scene(start).does("writeTable(0, 2, 3)", "writeTable(0, 3, 1)", "writeTable(0, 4, 2)"));
        ask.scene(start).does("exportTable(0, 3) -> OUT_OF_BOUNDS").same(ask.scene(start).does("writeTable(0, 3, 3)", "writeTable(0, 4, 1)"));
        ask.scene(start).does("exportTable(0, 4) -> OUT_OF_BOUNDS").same(ask.scene(start).does("writeTable(0, 4, 3)"));
        ask.scene(start).does("exportTable(1, 2) -> 3").same(ask.scene(start).does("writeTable(1, 2, 'd')", "writeTable(1, 3, 'b')", "writeTable(1, 4, 'c')"));
        ask.scene(start).does("exportTable(1, 4) -> OUT_OF_BOUNDS").same(ask.scene(start).does("writeTable(1, 4, 'd')"));
    }

    @Says("OUT_OF_BOUNDS if an index is out of bounds")
    static void promise52_outOfBoundsFromTheFirstIndexOn(Ask ask) {
        ask.busy().keeps("exportTable(0, -1) -> OUT_OF_BOUNDS", "exportTable(0, 3) -> OUT_OF_BOUNDS", "exportTable(0, MIN) -> OUT_OF_BOUNDS",
            "exportTable(0, MAX) -> OUT_OF_BOUNDS", "exportTable(1, -1) -> OUT_OF_BOUNDS", "exportTable(1, 2) -> OUT_OF_BOUNDS",
            "exportTable(0, -4) -> OUT_OF_BOUNDS", "exportTable(0, -5) -> OUT_OF_BOUNDS");
        ask.scene("letters(1)", "createTable(0, 0, 0)").keeps("exportTable(0, 0) -> OUT_OF_BOUNDS");
        // 256 letters from an index on that wraps around when they are counted.
        ask.scene("createTable(0, 0, 256)", "importTable(0, 0)", "complement()").keeps("exportTable(0, MAX) -> OUT_OF_BOUNDS",
            "exportTable(0, -255) -> OUT_OF_BOUNDS", "exportTable(0, 2147483500) -> OUT_OF_BOUNDS");
    }

    @Says("to a char table the characters a, b, c, d for the letters 0 to 3")
    static void promise52_everyLetter(Ask ask) {
        ask.scene("configure(4, 1)", "letters(0123)", "createTable(0, 0, 4)", "createTable(1, 1, 4)").does("exportTable(0, 0) -> 4", "exportTable(1, 0) -> 4",
            "readTable(0, 0) -> 0", "readTable(0, 1) -> 1", "readTable(0, 2) -> 2", "readTable(0, 3) -> 3", "readTable(1, 0) -> 97", "readTable(1, 1) -> 98",
            "readTable(1, 2) -> 99", "readTable(1, 3) -> 100", "undoCount() -> 4", "length() -> 4");
    }

    @Says("The empty sequence is exported wherever it would begin")
    static void promise52_theEmptySequence(Ask ask) {
        ask.busy("configure(3, 2)").keeps("exportTable(0, 0) -> 0", "exportTable(0, -1) -> 0", "exportTable(0, 3) -> 0", "exportTable(0, 4) -> 0",
            "exportTable(1, MIN) -> 0", "exportTable(1, MAX) -> 0", "exportTable(2, 0) -> BAD_ARGUMENT");
        ask.scene("createTable(0, 0, 0)").keeps("exportTable(0, 0) -> 0", "exportTable(0, 7) -> 0", "exportTable(1, 0) -> MISSING_TABLE");
    }

    @Says("Returns the length of the sequence")
    static void promise52_256Letters(Ask ask) {
        ask.scene("configure(4, 4)", "construct(1, 0)", "createTable(1, 1, 256)").does("exportTable(1, 0) -> 256", "readTable(1, 0) -> 97",
            "readTable(1, 255) -> 100");
        ask.scene("configure(4, 4)", "construct(1, 0)", "createTable(1, 1, 256)").does("exportTable(1, 1) -> OUT_OF_BOUNDS", "readTable(1, 0) -> 0",
            "readTable(1, 1) -> 97", "readTable(1, 255) -> 100");
        ask.scene("configure(4, 4)", "construct(1, 0)", "createTable(1, 1, 255)").does("exportTable(1, 0) -> OUT_OF_BOUNDS", "readTable(1, 0) -> 97",
            "readTable(1, 254) -> 100", "readTable(1, 255) -> OUT_OF_BOUNDS");
    }

    // Promise 53: importTable.

    @Says("BAD_ARGUMENT if table or type is out of range (checked first)")
    static void promise53_tablesAndTypes(Ask ask) {
        for (String wrong : new String[] {"-1", "2", "MIN", "MAX"}) {
            ask.busy().keeps("importTable(" + wrong + ", 0) -> BAD_ARGUMENT", "importTable(" + wrong + ", 1) -> BAD_ARGUMENT",
                "importTable(0, " + wrong + ") -> BAD_ARGUMENT", "importTable(1, " + wrong + ") -> BAD_ARGUMENT",
                "importTable(" + wrong + ", " + wrong + ") -> BAD_ARGUMENT");
            ask.scene().keeps("importTable(" + wrong + ", 0) -> BAD_ARGUMENT", "importTable(0, " + wrong + ") -> BAD_ARGUMENT");
        }
        ask.busy().does("importTable(0, 0) -> 3", "sequence -> 201", "importTable(1, 1) -> 2", "sequence -> 12", "undoCount() -> 6");
    }

    @Says("MISSING_TABLE; WRONG_TYPE")
    static void promise53_missingTables(Ask ask) {
        ask.scene("letters(01)").keeps("importTable(0, 0) -> MISSING_TABLE", "importTable(0, 1) -> MISSING_TABLE", "importTable(1, 0) -> MISSING_TABLE",
            "importTable(1, 1) -> MISSING_TABLE");
        ask.scene("createTable(0, 0, 1)").keeps("importTable(1, 0) -> MISSING_TABLE").does("importTable(0, 0) -> 1");
    }

    @Says({"the type that the table must have, 0 for byte, 1 for char", "WRONG_TYPE; MISMATCH if an element is no letter of the alphabet"})
    static void promise53_otherType(Ask ask) {
        ask.busy().keeps("importTable(0, 1) -> WRONG_TYPE", "importTable(1, 0) -> WRONG_TYPE");
        ask.scene("createTable(0, 0, 0)", "createTable(1, 1, 0)").keeps("importTable(0, 1) -> WRONG_TYPE", "importTable(1, 0) -> WRONG_TYPE");
        // The char 1 is no letter either way, but the type is asked first.
        ask.busy("writeTable(0, 0, 99)", "writeTable(1, 0, 1)").keeps("importTable(0, 1) -> WRONG_TYPE", "importTable(1, 0) -> WRONG_TYPE",
            "importTable(0, 0) -> MISMATCH", "importTable(1, 1) -> MISMATCH");
    }

    @Says("MISMATCH if an element is no letter of the alphabet")
    static void promise53_bytes(Ask ask) {
        for (int place = 0; place < 3; place++) {
            for (int value : new int[] {-1, 3, 4, 97, 98, 127, -128}) {
                ask.busy("writeTable(0, " + place + ", " + value + ")").keeps("importTable(0, 0) -> MISMATCH");
            }
        }
        ask.busy("writeTable(0, 1, 2)").does("importTable(0, 0) -> 3", "sequence -> 221");
        ask.scene("createTable(0, 0, 1)", "writeTable(0, 0, 2)").keeps("importTable(0, 0) -> MISMATCH")
            .does("writeTable(0, 0, 1)", "importTable(0, 0) -> 1", "sequence -> 1");
        ask.scene("configure(4, 1)", "createTable(0, 0, 1)", "writeTable(0, 0, 4)").keeps("importTable(0, 0) -> MISMATCH")
            .does("writeTable(0, 0, 3)", "importTable(0, 0) -> 1", "sequence -> 3");
    }

    @Says("which have the same meaning as in exportTable")
    static void promise53_chars(Ask ask) {
        for (int place = 0; place < 2; place++) {
            for (int value : new int[] {96, 100, 0, 1, 2, 65, 122, 65535, 353, 32865}) {
                ask.busy("writeTable(1, " + place + ", " + value + ")").keeps("importTable(1, 1) -> MISMATCH");
            }
        }
        ask.busy("writeTable(1, 0, 'a')").does("importTable(1, 1) -> 2", "sequence -> 02");
        ask.scene("createTable(0, 1, 1)", "writeTable(0, 0, 'c')").keeps("importTable(0, 1) -> MISMATCH")
            .does("writeTable(0, 0, 'b')", "importTable(0, 1) -> 1", "sequence -> 1");
        ask.scene("configure(4, 1)", "createTable(0, 1, 1)", "writeTable(0, 0, 'e')").keeps("importTable(0, 1) -> MISMATCH")
            .does("writeTable(0, 0, 'd')", "importTable(0, 1) -> 1", "sequence -> 3");
    }

    @Says("a table of the length 0 gives the empty sequence, which is an edit")
    static void promise53_theEmptyTable(Ask ask) {
        for (String type : new String[] {"0", "1"}) {
            ask.busy("createTable(0, " + type + ", 0)").does("importTable(0, " + type + ") -> 0", "length() -> 0", "undoCount() -> 6", "undo() -> 5",
                "sequence -> 02112");
            ask.scene("createTable(1, " + type + ", 0)").does("importTable(1, " + type + ") -> 0", "undoCount() -> 1", "undo() -> 0", "undoCount() -> 0");
        }
    }

    @Says("Replaces the sequence by all elements of a table")
    static void promise53_256Elements(Ask ask) {
        ask.scene("letters(01)", "createTable(0, 0, 256)", "writeTable(0, 255, 1)").does("importTable(0, 0) -> 256", "letter(255) -> 1", "letter(0) -> 0",
            "undo() -> 2").keeps("importTable(0, 1) -> WRONG_TYPE");
        ask.scene("letters(01)", "createTable(0, 0, 256)", "writeTable(0, 255, 2)").keeps("importTable(0, 0) -> MISMATCH");
        ask.busy().does("createTable(0, 0, 1) -> 1", "importTable(0, 0) -> 1", "sequence -> 0");
    }
}
