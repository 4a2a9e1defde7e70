import java.util.ArrayList;
import java.util.Arrays;
import java.util.HashSet;
import java.util.List;
import java.util.Set;

/**
 * The sentences of the document that name no boundary, on ordinary inputs; the boundary tests have the
 * others. DocumentTest complains of each sentence that no test quotes.
 */
public final class SentenceTest {
    private static final int MOST_CALLS = 512;
    /** Every k and n that the document allows. */
    private static final int[][] SHAPES = {{2, 1}, {2, 2}, {2, 3}, {2, 4}, {2, 5}, {2, 6}, {3, 1}, {3, 2}, {3, 3}, {3, 4}, {3, 5},
        {4, 1}, {4, 2}, {4, 3}, {4, 4}};

    public static void main(String[] args) throws Exception {
        Ask.runSentences(SentenceTest.class);
    }

    private static DeBruijnWorkbench bench(int[] shape) {
        return Due.bench(shape[0], shape[1], "");
    }

    private static int power(int base, int exponent) {
        return exponent == 0 ? 1 : base * power(base, exponent - 1);
    }

    /** A word as its letters, written with a number of digits to a base. */
    private static String word(int code, int base, int size) {
        return size == 0 ? "" : word(code / base, base, size - 1) + code % base;
    }

    private static List<String> rotations(String word) {
        List<String> all = new ArrayList<>();
        for (int i = 0; i < word.length(); i++) {
            all.add(word.substring(i) + word.substring(0, i));
        }
        return all;
    }

    // What it is.

    @Says("A workbench for de Bruijn sequences: construction by a greedy rule, by Lyndon words, by a successor rule on necklaces "
        + "and by joining cycles; lookup of blocks; rotation, reversal and cutting; necklaces; run and autocorrelation statistics.")
    static void promise01_whatItIs(Ask ask) {
        for (int kind = 0; kind <= 3; kind++) {
            ask.scene("configure(3, 3)").does("construct(" + kind + ", 0) -> 27", "isDeBruijn() -> 1", "occurrences(13) -> 1",
                "rotate(5)", "isDeBruijn() -> 1", "reverse()", "isDeBruijn() -> 1", "firstCut(1)", "necklaceOf(9) -> 1", "runCount(0, 3) -> 1",
                "autocorrelationBits(0) -> 1.0");
        }
    }

    @Says("An object is used for at most 512 calls after it has been made")
    static void promise01_theLastOf512Calls(Ask ask) {
        DeBruijnWorkbench x = new DeBruijnWorkbench();
        x.configure(4, 4);
        // 17 calls a round, the last of which is the 511th.
        for (int i = 0; i < (MOST_CALLS - 2) / 17; i++) {
            x.construct(i % 4, i);
            x.rotate(-i);
            x.reverse();
            x.complement();
            x.setLetter(i, i % 4);
            x.undo();
            x.save();
            x.createTable(i % 2, i % 2, 256);
            x.exportTable(i % 2, 0);
            x.importTable(i % 2, i % 2);
            x.appendCommand('g');
            x.runCommand();
            x.appendPattern(i % 4);
            x.patternCount();
            x.differentBlocks();
            x.autocorrelationBits(i);
            x.restore();
        }
        ask.that(x.isDeBruijn() == 1, "the 512th call does not find the sequence");
    }

    @Says("`BAD_ARGUMENT = -1`: An argument is out of range: a letter, a block code, a kind, a parameter or a number.")
    static void promise01_badArgument(Ask ask) {
        ask.that(DeBruijnWorkbench.BAD_ARGUMENT == -1, "BAD_ARGUMENT is another number");
        ask.busy().keeps("appendLetter(3) -> -1", "positionOf(9) -> -1", "construct(4, 0) -> -1", "construct(3, 3) -> -1", "countModulo(1) -> -1");
    }

    @Says("`NONE = -2`: There is no such position, block, necklace, occurrence or result.")
    static void promise01_none(Ask ask) {
        ask.that(DeBruijnWorkbench.NONE == -2, "NONE is another number");
        ask.busy().keeps("letter(5) -> -2", "missingBlock(4) -> -2", "necklace(6) -> -2", "positionOf(0) -> -2", "firstRepeat() -> -2");
    }

    @Says({"`EMPTY = -3`: The sequence is empty.", "`FULL = -4`: The sequence or the command has no room."})
    static void promise01_emptyAndFull(Ask ask) {
        ask.that(DeBruijnWorkbench.EMPTY == -3 && DeBruijnWorkbench.FULL == -4, "EMPTY or FULL is another number");
        ask.scene().keeps("rotate(1) -> -3", "reverse() -> -3", "complement() -> -3", "firstCut(1) -> -3", "autocorrelationBits(0) -> -3");
        ask.scene("configure(4, 4)", "construct(0, 0)", "signs(aaaaaaaaaaaaaaaaaaaa)").keeps("appendLetter(0) -> -4", "appendCommand('a') -> -4");
    }

    @Says({"`MISMATCH = -5`: The letters do not match.", "`UNKNOWN_NAME = -6`: The command has an unknown name.",
        "`NOTHING_SAVED = -7`: There is nothing to undo or to restore.", "`CONSTANT = -8`: All letters of the sequence are equal."})
    static void promise01_mismatchToConstant(Ask ask) {
        ask.that(DeBruijnWorkbench.MISMATCH == -5 && DeBruijnWorkbench.UNKNOWN_NAME == -6, "MISMATCH or UNKNOWN_NAME is another number");
        ask.that(DeBruijnWorkbench.NOTHING_SAVED == -7 && DeBruijnWorkbench.CONSTANT == -8, "NOTHING_SAVED or CONSTANT is another number");
        ask.busy().keeps("cut(0, 1) -> -5", "exchange(0, 1, 2, 3) -> -5");
        ask.scene("signs(lindon)").does("runCommand() -> -6", "undo() -> -7", "restore() -> -7", "letters(11)", "autocorrelationBits(1) -> -8");
    }

    @Says({"`MISSING_TABLE = -11`: The table is missing.", "`WRONG_TYPE = -12`: The table has another element type.",
        "`OUT_OF_BOUNDS = -13`: A table index is out of bounds.", "`NEGATIVE_LENGTH = -14`: The length of a table is negative."})
    static void promise01_errorsOfTables(Ask ask) {
        ask.that(DeBruijnWorkbench.MISSING_TABLE == -11 && DeBruijnWorkbench.WRONG_TYPE == -12, "MISSING_TABLE or WRONG_TYPE is another number");
        ask.that(DeBruijnWorkbench.OUT_OF_BOUNDS == -13 && DeBruijnWorkbench.NEGATIVE_LENGTH == -14, "OUT_OF_BOUNDS or NEGATIVE_LENGTH is another");
        ask.scene("letters(0)").keeps("readTable(0, 0) -> -11", "writeTable(0, 0, 0) -> -11", "exportTable(0, 0) -> -11", "importTable(0, 0) -> -11");
        ask.busy().keeps("importTable(0, 1) -> -12", "readTable(0, 3) -> -13", "writeTable(0, 3, 0) -> -13", "createTable(0, 0, -1) -> -14");
    }

    @Says("A call that returns an error code leaves the state unchanged, unless its description says otherwise.")
    static void promise01_errorsLeaveTheState(Ask ask) {
        ask.busy().keeps("configure(1, 1) -> -1", "construct(9, 9) -> -1", "setLetter(9, 0) -> -2", "appendLetter(9) -> -1", "cut(1, 1) -> -5",
            "exchange(0, 1, 3, 2) -> -1", "appendPattern(9) -> -1", "appendCommand(9) -> -1", "createTable(0, 1, -9) -> -14",
            "writeTable(0, 9, 9) -> -13", "importTable(1, 0) -> -12");
        // The two that say otherwise: the command becomes empty, and elements are set up to the one that is out of bounds.
        ask.busyWithCommand("nothing").does("runCommand() -> -6").same(ask.busyWithCommand(""));
        ask.busy().does("exportTable(1, 1) -> -13").same(ask.busy("writeTable(1, 1, 'a')"));
    }

    // Promises 2 to 6: configure, letterCount, order, length, letter.

    @Says({"Sets the number of letters and the order.", "Returns k^n", "The alphabet has k letters, 2 to 4, which are numbered from 0.",
        "The order n is from 1 to 6."})
    static void promise02_everyShape(Ask ask) {
        for (int[] shape : SHAPES) {
            Scene scene = ask.busy().does("configure(" + shape[0] + ", " + shape[1] + ") -> " + power(shape[0], shape[1]),
                "letterCount() -> " + shape[0], "order() -> " + shape[1]);
            for (int letter = 0; letter < shape[0]; letter++) {
                scene.does("appendLetter(" + letter + ") -> " + (letter + 1));
            }
            scene.keeps("appendLetter(" + shape[0] + ") -> BAD_ARGUMENT");
        }
    }

    @Says("Returns the length of the sequence.")
    static void promise05_growsAndShrinks(Ask ask) {
        ask.scene().does("appendLetter(1)", "length() -> 1", "appendLetter(0)", "length() -> 2", "construct(1, 0)", "length() -> 8", "undo()",
            "length() -> 2", "configure(2, 1)", "length() -> 0", "letters(011)", "cut(0, 1)", "length() -> 2");
    }

    @Says({"Returns a letter of the sequence.", "`position`: the position", "Its positions are numbered from 0 to its length minus 1."})
    static void promise06_everyPosition(Ask ask) {
        ask.scene("configure(4, 2)", "letters(3102)").keeps("letter(0) -> 3", "letter(1) -> 1", "letter(2) -> 0", "letter(3) -> 2", "letter(4) -> NONE");
    }

    // Promise 7: construct.

    @Says({"Each construction has a kind and a parameter p, which only kind 3 uses.", "Returns the length of the sequence, which is k^n"})
    static void promise07_everyShapeAndKind(Ask ask) {
        for (int[] shape : SHAPES) {
            int blocks = power(shape[0], shape[1]);
            for (int kind = 0; kind <= 3; kind++) {
                ask.scene("configure(" + shape[0] + ", " + shape[1] + ")").does("construct(" + kind + ", 0) -> " + blocks, "length() -> " + blocks,
                    "isDeBruijn() -> 1");
            }
        }
    }

    @Says({"A word begins with n - 1 letters 0.", "In each step the greatest letter is appended such that the block that the last n letters form has "
        + "not been formed in an earlier step.", "It ends when there is no such letter.", "The sequence consists of the appended letters."})
    static void promise07_greedy(Ask ask) {
        ask.scene("configure(2, 4)").does("construct(0, 0) -> 16", "sequence -> 1111011001010000");
        ask.scene("configure(3, 2)").does("construct(0, 0) -> 9", "sequence -> 221201100");
        for (int[] shape : SHAPES) {
            DeBruijnWorkbench x = bench(shape);
            x.construct(0, 0);
            String word = "0".repeat(shape[1] - 1) + Due.letters(x);
            Set<String> formed = new HashSet<>();
            for (int end = shape[1]; end <= word.length(); end++) {
                String kept = word.substring(end - shape[1], end - 1);
                int letter = word.charAt(end - 1) - '0';
                for (int greater = letter + 1; greater < shape[0]; greater++) {
                    ask.that(formed.contains(kept + greater), Arrays.toString(shape) + ": a greater letter was possible at " + end);
                }
                ask.that(formed.add(kept + letter), Arrays.toString(shape) + ": a block is formed twice at " + end);
            }
            ask.that(formed.size() == power(shape[0], shape[1]), Arrays.toString(shape) + ": it ends too early");
        }
    }

    @Says({"The sequence is the concatenation, in ascending lexicographic order, of all Lyndon words whose length divides n.",
        "Words are compared lexicographically, letter by letter, by the numbers of their letters, and a proper prefix of a word is smaller than the word."})
    static void promise07_lyndon(Ask ask) {
        // 0 0001 0011 01 0111 1: 0 is a prefix of 0001, and 01 of 0111.
        ask.scene("configure(2, 4)").does("construct(1, 0) -> 16", "sequence -> 0000100110101111");
        // 0 001 002 011 012 021 022 1 112 122 2: no word of two letters, because 2 does not divide 3.
        ask.scene("configure(3, 3)").does("construct(1, 0) -> 27", "sequence -> 000100201101202102211121222");
        // 0 01 02 03 1 12 13 2 23 3.
        ask.scene("configure(4, 2)").does("construct(1, 0) -> 16", "sequence -> 0010203112132233");
        // 0 000001 000011 000101 000111 001 001011 001101 001111 01 010111 011 011111 1.
        ask.scene("configure(2, 6)").does("construct(1, 0) -> 64",
            "sequence -> 0000001000011000101000111001001011001101001111010101110110111111");
    }

    @Says("The sequence is made by k^n steps, beginning with the block of n letters 0: in each step the successor letter x of the block is appended "
        + "to the sequence, and the block a u becomes the block u x.")
    static void promise07_necklace(Ask ask) {
        // The blocks are 000 001 011 111 110 101 010 100.
        ask.scene().does("construct(2, 0) -> 8", "sequence -> 11101000");
        // The blocks are 00 01 11 12 22 21 10 02 20.
        ask.scene("configure(3, 2)").does("construct(2, 0) -> 9", "sequence -> 112210200");
        for (int[] shape : SHAPES) {
            DeBruijnWorkbench x = bench(shape);
            int blocks = x.construct(2, 0);
            int block = 0;
            for (int step = 0; step < blocks; step++) {
                ask.that(x.letter(step) == x.successorLetter(block), Arrays.toString(shape) + ": another letter at step " + step);
                block = block * shape[0] % blocks + x.letter(step);
            }
            ask.that(block == 0, Arrays.toString(shape) + ": the last block is " + block);
        }
    }

    @Says({"At first every block a u has the successor u a.", "For each word u of n - 1 letters, whose codes to the base k are taken in the order p, "
        + "p + 1, .. modulo k^(n-1), and for each letter x = 0, 1, .., k - 2 in this order: if the blocks x u and (x + 1) u lie on different cycles, "
        + "their successors are exchanged.", "In the end there is one cycle.", "The sequence consists of the first letters of the blocks on this "
        + "cycle, beginning with the block of n letters 0 and following the successors.", "For n = 1 the only word u is the empty one."})
    static void promise07_joined(Ask ask) {
        // From p = 0 on 000 and 100, 001 and 101, 011 and 111 exchange: 000 001 011 111 110 101 010 100.
        ask.scene().does("construct(3, 0) -> 8", "sequence -> 00011101");
        // From p = 2 on 010 and 110, 011 and 111, 000 and 100 exchange: 000 001 010 101 011 111 110 100.
        ask.scene().does("construct(3, 2) -> 8", "sequence -> 00010111");
        // u is 0: 00 with 10, then 10 with 20. u is 1: 11 with 21 alone; u is 2: 12 with 22: 00 01 11 12 22 21 10 02 20.
        ask.scene("configure(3, 2)").does("construct(3, 0) -> 9", "sequence -> 001122102");
        ask.scene("configure(3, 1)").does("construct(3, 0) -> 3", "sequence -> 012");
    }

    @Says("At first every block a u has the successor u a.")
    static void promise07_joinedAfterAnyOtherJoined(Ask ask) {
        for (int[] shape : SHAPES) {
            int tails = power(shape[0], shape[1] - 1);
            DeBruijnWorkbench used = bench(shape);
            for (int p = 0; p < tails; p++) {
                DeBruijnWorkbench fresh = bench(shape);
                fresh.construct(3, p);
                String due = Due.letters(fresh);
                for (int before = 0; before < tails; before++) {
                    used.construct(3, before);
                    used.construct(3, p);
                    ask.that(Due.letters(used).equals(due), Arrays.toString(shape) + ": joined " + p + " after " + before + " is another one");
                }
            }
        }
    }

    // Promises 8 and 9: appendCommand, runCommand.

    @Says({"Appends a character to the command.", "Returns the new length of the command"})
    static void promise08_oneAfterTheOther(Ask ask) {
        ask.scene().does("appendCommand('l') -> 1", "appendCommand('y') -> 2", "appendCommand('n') -> 3", "appendCommand('d') -> 4",
            "appendCommand('o') -> 5", "appendCommand('n') -> 6", "runCommand() -> 8", "sequence -> 00010111");
    }

    @Says({"Runs the command: replaces the sequence by the construction that it names.", "Returns the length of the sequence",
        "Constructions have the names greedy, lyndon, necklace and joined, for the kinds 0 to 3.",
        "A command is a name, optionally followed by a colon and a parameter, which is written with 1 to 3 digits."})
    static void promise09_everyName(Ask ask) {
        String[] names = {"greedy", "lyndon", "necklace", "joined"};
        for (int[] shape : SHAPES) {
            int last = power(shape[0], shape[1] - 1) - 1;
            for (int kind = 0; kind <= 3; kind++) {
                DeBruijnWorkbench made = bench(shape);
                int blocks = made.construct(kind, 0);
                String first = Due.letters(made);
                made.construct(kind, last);
                ask.scene("configure(" + shape[0] + ", " + shape[1] + ")", "letters(10)", "signs(" + names[kind] + ")")
                    .does("runCommand() -> " + blocks, "sequence -> " + first, "undoCount() -> 3", "signs(" + names[kind] + ":" + last + ")",
                        "runCommand() -> " + blocks, "sequence -> " + Due.letters(made), "undo() -> " + blocks, "undo() -> 2", "sequence -> 10");
            }
        }
    }

    // Promises 10 to 17: edits.

    @Says({"Sets a letter of the sequence.", "`position`: the position", "Returns the previous letter"})
    static void promise10_everyPosition(Ask ask) {
        ask.scene("configure(4, 2)", "letters(0123)").does("setLetter(2, 0) -> 2", "sequence -> 0103", "setLetter(0, 3) -> 0", "sequence -> 3103",
            "setLetter(3, 1) -> 3", "sequence -> 3101", "setLetter(2, 2) -> 0", "sequence -> 3121", "undo() -> 4", "sequence -> 3101");
    }

    @Says({"Appends a letter to the sequence.", "Returns the new length"})
    static void promise11_oneAfterTheOther(Ask ask) {
        ask.scene("configure(3, 2)").does("appendLetter(2) -> 1", "sequence -> 2", "appendLetter(0) -> 2", "sequence -> 20", "appendLetter(1) -> 3",
            "sequence -> 201");
        ask.scene("construct(0, 0)").does("appendLetter(1) -> 9", "sequence -> 111010001");
    }

    @Says("Rotates the sequence: the letter at position i becomes the one that was at position (i + shift) modulo the length, where the result of "
        + "modulo is not negative.")
    static void promise12_everyShift(Ask ask) {
        String word = "0122310";
        for (int shift = -15; shift <= 15; shift++) {
            int by = Math.floorMod(shift, 7);
            ask.scene("configure(4, 3)", "letters(" + word + ")").does("rotate(" + shift + ") -> " + word.charAt(by),
                "sequence -> " + word.substring(by) + word.substring(0, by), "undo() -> 7", "sequence -> " + word);
        }
    }

    @Says("Reverses the order of the letters.")
    static void promise13_fromTheLastToTheFirst(Ask ask) {
        ask.scene("configure(4, 2)", "letters(01323)").does("reverse() -> 0", "sequence -> 32310", "reverse() -> 0", "sequence -> 01323");
        ask.scene("configure(4, 2)", "letters(1331)").does("reverse() -> 1", "sequence -> 1331");
    }

    @Says("Returns the letter at position 0 afterwards, or EMPTY.")
    static void promise14_everyLetter(Ask ask) {
        ask.scene("configure(4, 2)", "letters(1032)").does("complement() -> 2", "sequence -> 2301", "complement() -> 1", "sequence -> 1032");
    }

    @Says({"Cuts letters out of the sequence: the given number of letters, from a position on, modulo the length.",
        "This is only possible if the n - 1 letters from this position on are equal to the n - 1 letters that begin after the letters to be cut out, "
            + "both modulo the length.",
        "The remaining letters begin with the first letter after those that are cut out and stay in their cyclic order.",
        "`position`: the position of the first letter to be cut out", "Returns the new length"})
    static void promise15_inTheMiddleAndRoundTheEnd(Ask ask) {
        // Positions 2 and 5 have the letter 1: the letters 1 2 0 between them go.
        ask.scene("configure(3, 2)", "letters(0212012)").does("cut(2, 3) -> 4", "sequence -> 1202", "undo() -> 7", "sequence -> 0212012");
        // Positions 6 and 1 have the letter 2: 2 and 0 go, round the end.
        ask.scene("configure(3, 2)", "letters(0212012)").does("cut(6, 2) -> 5", "sequence -> 21201");
        // Positions 1 and 4 have the letters 2 1 and 2 0.
        ask.scene("configure(3, 3)", "letters(0212012)").keeps("cut(1, 2) -> MISMATCH", "cut(2, 2) -> MISMATCH");
        // Positions 2 and 5 have the letters 1 2.
        ask.scene("configure(3, 3)", "letters(0212012)").does("cut(2, 3) -> 4", "sequence -> 1202");
    }

    @Says({"Exchanges two parts of the sequence: the letters from the first position up to the one before the second position, and those from the "
        + "third position up to the one before the fourth position.",
        "This is only possible if the n - 1 letters from the first position on are equal to the n - 1 letters from the third position on, and those "
            + "from the second position on are equal to those from the fourth position on, all modulo the length; then the number of occurrences of "
            + "every block stays the same.",
        "`first`: the first position", "`second`: the second position", "`third`: the third position", "`fourth`: the fourth position"})
    static void promise16_partsAndBlocks(Ask ask) {
        // The letter 0 at 0 and 4, the letter 2 at 2 and 7: the parts are 01 and 0 3 1, between them stands 2 1.
        ask.scene("configure(4, 2)", "letters(01210312)").does("exchange(0, 2, 4, 7) -> 1", "sequence -> 03121012", "undo() -> 8",
            "sequence -> 01210312");
        int exchanged = 0;
        DeBruijnWorkbench x = Due.bench(2, 3, "0010111001101001");
        String word = Due.letters(x);
        for (int code = 0; code < 65536; code++) {
            int a = code / 4096;
            int b = code / 256 % 16;
            int c = code / 16 % 16;
            int d = code % 16;
            if (a < b && b < c && c < d) {
                exchanged += checkExchange(ask, x, word, a, b, c, d);
            }
        }
        ask.that(exchanged > 20, "only " + exchanged + " exchanges are possible");
    }

    private static int checkExchange(Ask ask, DeBruijnWorkbench x, String word, int a, int b, int c, int d) {
        int[] before = occurrences(x);
        String round = word + word;
        boolean possible = round.substring(a, a + 2).equals(round.substring(c, c + 2)) && round.substring(b, b + 2).equals(round.substring(d, d + 2));
        String due = possible ? word.substring(0, a) + word.substring(c, d) + word.substring(b, c) + word.substring(a, b) + word.substring(d) : word;
        int answer = x.exchange(a, b, c, d);
        ask.that(answer == (possible ? due.equals(word) ? 0 : 1 : -5), "exchange " + a + " " + b + " " + c + " " + d + " answered " + answer);
        ask.that(Due.letters(x).equals(due), "exchange " + a + " " + b + " " + c + " " + d + " made " + Due.letters(x));
        ask.that(Arrays.equals(occurrences(x), before), "exchange " + a + " " + b + " " + c + " " + d + " made other blocks");
        if (possible) {
            x.undo();
        }
        return possible ? 1 : 0;
    }

    private static int[] occurrences(DeBruijnWorkbench x) {
        int[] counts = new int[8];
        for (int block = 0; block < counts.length; block++) {
            counts[block] = x.occurrences(block);
        }
        return counts;
    }

    @Says({"Returns the first position at which cut is possible with a number of letters.", "Returns the position"})
    static void promise17_firstOfThePositionsThatCutTakes(Ask ask) {
        for (String word : new String[] {"0010111001101001", "01", "0001", "110110", "10000000001"}) {
            for (int count = 1; count < word.length(); count++) {
                int first = -2;
                for (int position = word.length() - 1; position >= 0; position--) {
                    first = Due.bench(2, 4, word).cut(position, count) == -5 ? first : position;
                }
                ask.scene("configure(2, 4)", "letters(" + word + ")").does("firstCut(" + count + ") -> " + first, "sequence -> " + word);
            }
        }
    }

    // Promises 18 to 28: blocks.

    @Says({"Returns the block that occurs at a position.", "`position`: the position", "A block is a word of n letters.",
        "The code of a block is the number from 0 to k^n - 1 whose n digits to the base k are its letters, the first letter being the most significant digit.",
        "A block occurs at position i if its j-th letter, for j = 0, 1, .., n - 1, is the letter at position (i + j) modulo the length.",
        "Exactly one block occurs at each position; this also holds if the sequence is shorter than n."})
    static void promise18_everyPosition(Ask ask) {
        // 0 1 2, 1 2 3, 2 3 0 and 3 0 1 to the base 4.
        ask.scene("configure(4, 3)", "letters(0123)").keeps("blockAt(0) -> 6", "blockAt(1) -> 27", "blockAt(2) -> 44", "blockAt(3) -> 49");
        for (String word : new String[] {"1", "02", "210", "0221", "1020012"}) {
            DeBruijnWorkbench x = Due.bench(3, 5, word);
            for (int i = 0; i < word.length(); i++) {
                int code = Integer.parseInt(word.repeat(7).substring(i, i + 5), 3);
                ask.that(x.blockAt(i) == code, word + ": the block at " + i + " is " + x.blockAt(i));
            }
        }
    }

    @Says({"`block`: the code of the block", "Returns the position"})
    static void promise19_everyBlock(Ask ask) {
        // 000 001 010 101 011 111 110 100.
        ask.scene("construct(1, 0)").keeps("positionOf(0) -> 0", "positionOf(1) -> 1", "positionOf(2) -> 2", "positionOf(5) -> 3", "positionOf(3) -> 4",
            "positionOf(7) -> 5", "positionOf(6) -> 6", "positionOf(4) -> 7");
    }

    @Says({"Returns the letter that follows the first occurrence of a block: if the block occurs first at position i, the letter at position (i + n) "
        + "modulo the length.", "`block`: the code of the block", "Returns the letter"})
    static void promise20_everyBlock(Ask ask) {
        ask.scene("construct(1, 0)").keeps("letterAfter(0) -> 1", "letterAfter(1) -> 0", "letterAfter(2) -> 1", "letterAfter(5) -> 1",
            "letterAfter(3) -> 1", "letterAfter(7) -> 0", "letterAfter(6) -> 0", "letterAfter(4) -> 0");
    }

    @Says({"`block`: the code of the block", "Returns the number of positions"})
    static void promise21_everyBlock(Ask ask) {
        ask.scene("configure(2, 2)", "letters(00010111011)").keeps("occurrences(0) -> 2", "occurrences(1) -> 3", "occurrences(2) -> 3", "occurrences(3) -> 3");
    }

    @Says({"Returns the distance from a block to another one: the first position of the other block minus the first position of the block, modulo the "
        + "length, where the result of modulo is not negative.", "`block`: the code of the block", "`other`: the code of the other block",
        "Returns the distance"})
    static void promise22_everyPair(Ask ask) {
        int[] order = {0, 1, 2, 5, 3, 7, 6, 4};
        for (int from = 0; from < 8; from++) {
            for (int to = 0; to < 8; to++) {
                ask.scene("construct(1, 0)").does("distance(" + order[from] + ", " + order[to] + ") -> " + Math.floorMod(to - from, 8));
            }
        }
    }

    @Says({"Returns the length of the linear form.", "The linear form is the word of all letters of the sequence followed by n - 1 further letters, "
        + "which continue it cyclically; it contains every block that occurs."})
    static void promise23_everyOrder(Ask ask) {
        for (int order = 1; order <= 6; order++) {
            ask.scene("configure(2, " + order + ")", "letters(0110100)").keeps("linearLength() -> " + (6 + order));
            DeBruijnWorkbench x = Due.bench(2, order, "0110100");
            StringBuilder linear = new StringBuilder();
            for (int i = 0; i < x.linearLength(); i++) {
                linear.append(x.linearLetter(i));
            }
            for (int block = 0; block < power(2, order); block++) {
                boolean stands = linear.indexOf(word(block, 2, order)) >= 0;
                ask.that(stands == (x.occurrences(block) > 0), "order " + order + ": block " + block + " in the linear form " + linear);
            }
        }
    }

    @Says({"Returns a letter of the linear form.", "`position`: the position, from 0"})
    static void promise24_everyPosition(Ask ask) {
        String linear = "0212021";
        for (int i = 0; i < linear.length(); i++) {
            ask.scene("configure(3, 4)", "letters(0212)").does("linearLetter(" + i + ") -> " + linear.charAt(i));
        }
    }

    @Says("Returns the number of blocks.")
    static void promise25_repeatedBlocksCountOnce(Ask ask) {
        // 00, 01, 10, 11 of four kinds at seven positions; then 02, 21, 10 at six positions.
        ask.scene("configure(2, 2)", "letters(0011001)").keeps("differentBlocks() -> 4");
        ask.scene("configure(3, 2)", "letters(021021)").keeps("differentBlocks() -> 3");
    }

    @Says("Returns the code of the block, or NONE if there is no such index.")
    static void promise26_inAscendingOrder(Ask ask) {
        ask.scene("configure(3, 2)", "letters(021021)").keeps("missingBlock(0) -> 0", "missingBlock(1) -> 1", "missingBlock(2) -> 4",
            "missingBlock(3) -> 5", "missingBlock(4) -> 6", "missingBlock(5) -> 8", "missingBlock(6) -> NONE");
    }

    @Says("Returns the first position whose block occurs at a smaller position as well.")
    static void promise27_firstOfTheRepeats(Ask ask) {
        // 02 21 11 10 02: the block 02 of position 4 stands at position 0.
        ask.scene("configure(3, 2)", "letters(0211021)").keeps("firstRepeat() -> 4");
        // 01 stands again at position 3 and 10 at position 4.
        ask.scene("configure(2, 2)", "letters(010010)").keeps("firstRepeat() -> 3");
    }

    @Says("Returns whether the sequence is a de Bruijn sequence.")
    static void promise28_someAreAndSomeAreNot(Ask ask) {
        // There are two cycles for two letters and order 3, each with eight rotations.
        int found = 0;
        for (int code = 0; code < 256; code++) {
            DeBruijnWorkbench x = Due.bench(2, 3, word(code, 2, 8));
            found += x.isDeBruijn();
        }
        ask.that(found == 16, found + " of the words of eight letters are de Bruijn sequences");
    }

    // Promises 29 to 36: the successor rule, necklaces and Lyndon words.

    @Says({"Returns the successor letter of a block as construction kind 2 defines it.", "`block`: the code of the block", "Returns the letter",
        "The successor letter of a block a u, where a is its first letter and u consists of the others, is defined as follows.",
        "Let t be the smallest letter that is at least 1 and for which u t is a necklace."})
    static void promise29_everyBlock(Ask ask) {
        int[] letters = {1, 1, 0, 1, 0, 0, 1, 0};
        for (int block = 0; block < letters.length; block++) {
            ask.scene().does("successorLetter(" + block + ") -> " + letters[block]);
        }
        // u is 0 0: t is 1. u is 0 1: t is 1. u is 0 2: t is 1. u is 1 2: t is 2, because 1 2 1 is no necklace.
        ask.scene("configure(3, 3)").keeps("successorLetter(0) -> 1", "successorLetter(9) -> 2", "successorLetter(18) -> 0", "successorLetter(10) -> 2",
            "successorLetter(20) -> 0", "successorLetter(5) -> 0", "successorLetter(14) -> 2", "successorLetter(23) -> 1");
    }

    @Says({"Returns the block that is reached from a block by steps of construction kind 2.", "`block`: the code of the block",
        "Returns the code of the block that is reached"})
    static void promise30_everyStep(Ask ask) {
        int[] round = {0, 1, 3, 7, 6, 5, 2, 4};
        for (int from = 0; from < 8; from++) {
            for (int steps = 0; steps <= 300; steps += 7) {
                ask.scene().does("follow(" + round[from] + ", " + steps + ") -> " + round[(from + steps) % 8]);
            }
        }
    }

    @Says({"Returns whether a block is a necklace.", "`block`: the code of the block",
        "A rotation of a word a1 a2 .. an is a word ai .. an a1 .. a(i-1).", "A word is a necklace if no rotation of it is lexicographically smaller."})
    static void promise31_everyBlock(Ask ask) {
        for (int[] shape : SHAPES) {
            DeBruijnWorkbench x = bench(shape);
            for (int block = 0; block < power(shape[0], shape[1]); block++) {
                String word = word(block, shape[0], shape[1]);
                boolean least = rotations(word).stream().noneMatch(r -> r.compareTo(word) < 0);
                ask.that(x.isNecklace(block) == (least ? 1 : 0), Arrays.toString(shape) + ": isNecklace of " + word);
            }
        }
    }

    @Says({"`block`: the code of the block", "Returns the necklace among the rotations of a block."})
    static void promise32_everyBlock(Ask ask) {
        for (int[] shape : SHAPES) {
            DeBruijnWorkbench x = bench(shape);
            for (int block = 0; block < power(shape[0], shape[1]); block++) {
                String necklace = word(x.necklaceOf(block), shape[0], shape[1]);
                ask.that(rotations(necklace).contains(word(block, shape[0], shape[1])), Arrays.toString(shape) + ": no rotation of " + block);
                ask.that(x.isNecklace(x.necklaceOf(block)) == 1, Arrays.toString(shape) + ": no necklace of " + block);
            }
        }
    }

    @Says({"Returns the number of different rotations of a block.", "`block`: the code of the block"})
    static void promise33_everyBlock(Ask ask) {
        for (int[] shape : SHAPES) {
            DeBruijnWorkbench x = bench(shape);
            for (int block = 0; block < power(shape[0], shape[1]); block++) {
                int count = new HashSet<>(rotations(word(block, shape[0], shape[1]))).size();
                ask.that(x.rotationCount(block) == count, Arrays.toString(shape) + ": rotations of " + block);
                ask.that(shape[1] % count == 0, Arrays.toString(shape) + ": it does not divide n");
            }
        }
    }

    @Says({"Returns a necklace of n letters.", "Returns the code of the necklace, or NONE if there is no such index."})
    static void promise34_everyIndex(Ask ask) {
        // 0000 0001 0011 0101 0111 1111.
        ask.scene("configure(2, 4)").keeps("necklace(0) -> 0", "necklace(1) -> 1", "necklace(2) -> 3", "necklace(3) -> 5", "necklace(4) -> 7",
            "necklace(5) -> 15", "necklace(6) -> NONE");
    }

    @Says({"Returns the number of Lyndon words of a length.", "A word is a Lyndon word if it is a necklace and all its rotations by 1 to length - 1 "
        + "letters are different from it; every word of one letter is a Lyndon word."})
    static void promise35_everyLength(Ask ask) {
        int[][] counts = {{2, 2, 1, 2, 3, 6, 9}, {3, 3, 3, 8, 18, 48}, {4, 4, 6, 20, 60}};
        for (int[] row : counts) {
            for (int length = 1; length < row.length; length++) {
                ask.scene("configure(" + row[0] + ", " + (row.length - 1) + ")").does("lyndonCount(" + length + ") -> " + row[length]);
            }
        }
    }

    @Says({"Returns a Lyndon word of a length.", "`length`: the length, 1 to n", "Returns the number whose digits to the base k are the letters of the "
        + "word, the first one being the most significant digit"})
    static void promise36_everyIndex(Ask ask) {
        // 0 1 2; 01 02 12; 001 002 011 012 021 022 112 122.
        int[][] words = {{0, 1, 2}, {1, 2, 5}, {1, 2, 4, 5, 7, 8, 14, 17}};
        for (int length = 1; length <= 3; length++) {
            for (int i = 0; i < words[length - 1].length; i++) {
                ask.scene("configure(3, 3)").does("lyndonWord(" + length + ", " + i + ") -> " + words[length - 1][i]);
            }
            ask.scene("configure(3, 3)").does("lyndonWord(" + length + ", " + words[length - 1].length + ") -> NONE");
        }
    }

    // Promises 37 to 40: the pattern.

    @Says({"Appends an element to the pattern.", "Returns the new length of the pattern"})
    static void promise37_oneAfterTheOther(Ask ask) {
        ask.scene("letters(001011)").does("appendPattern(0) -> 1", "patternCount() -> 3", "appendPattern(-1) -> 2", "patternCount() -> 3",
            "appendPattern(1) -> 3", "patternCount() -> 2", "patternPosition(0) -> 0", "patternPosition(1) -> 3", "appendPattern(1) -> 4",
            "patternCount() -> 0");
    }

    @Says("Makes the pattern empty.")
    static void promise38_matchesEverywhereThen(Ask ask) {
        ask.scene("letters(001011)", "elements(1 1)").does("patternCount() -> 1", "clearPattern() -> 2", "patternCount() -> 6", "clearPattern() -> 0");
    }

    @Says("The pattern matches at a position i of the sequence if for each element j that is not -1 the letter at position (i + j) modulo the length "
        + "is this element.")
    static void promise39_lettersAndAnyLetter(Ask ask) {
        ask.scene("configure(4, 2)", "letters(01320132)", "elements(1 -1 2)").keeps("patternCount() -> 2", "patternPosition(0) -> 1", "patternPosition(1) -> 5");
        ask.scene("configure(4, 2)", "letters(01320132)", "elements(2 0 -1 3)").keeps("patternCount() -> 2", "patternPosition(0) -> 3",
            "patternPosition(1) -> 7");
    }

    @Says("Returns a position at which the pattern matches.")
    static void promise40_everyIndex(Ask ask) {
        ask.scene("letters(0110100)", "elements(0)").keeps("patternPosition(0) -> 0", "patternPosition(1) -> 3", "patternPosition(2) -> 5",
            "patternPosition(3) -> 6", "patternPosition(4) -> NONE");
    }

    // Promises 41 to 44: statistics.

    @Says({"Returns the number of de Bruijn sequences with k letters and order n, where sequences that are rotations of each other count once, modulo "
        + "a number.", "Returns the number modulo the modulus, or BAD_ARGUMENT."})
    static void promise41_countedOneByOne(Ask ask) {
        int[][] shapes = {{2, 1}, {2, 2}, {2, 3}, {2, 4}, {3, 1}, {3, 2}, {4, 1}};
        for (int[] shape : shapes) {
            int count = cycles(shape[0], shape[1], "0".repeat(shape[1]));
            for (int modulus : new int[] {2, 3, 5, 7, 10, 1000}) {
                ask.scene("configure(" + shape[0] + ", " + shape[1] + ")").does("countModulo(" + modulus + ") -> " + count % modulus);
            }
        }
    }

    /** The de Bruijn sequences that begin with a word, one for each cycle if it is the block 0; written on until all blocks stand in them. */
    private static int cycles(int k, int n, String begun) {
        int blocks = power(k, n);
        Set<String> seen = new HashSet<>();
        for (int i = 0; i + n <= begun.length(); i++) {
            if (!seen.add(begun.substring(i, i + n))) {
                return 0;
            }
        }
        if (begun.length() == blocks + n - 1) {
            return begun.endsWith("0".repeat(n - 1)) ? 1 : 0;
        }
        int found = 0;
        for (int letter = 0; letter < k; letter++) {
            found += cycles(k, n, begun + letter);
        }
        return found;
    }

    @Says("Returns the number of runs of a letter.")
    static void promise42_everyRun(Ask ask) {
        // 1 1, 0, 2 2 2, 1, 0 0, 2, and again 1: the first and the last run are one.
        ask.scene("configure(3, 2)", "letters(11022210021)").keeps("runCount(1, 3) -> 1", "runCount(1, 1) -> 1", "runCount(1, 2) -> 0", "runCount(0, 1) -> 1",
            "runCount(0, 2) -> 1", "runCount(2, 3) -> 1", "runCount(2, 1) -> 1", "runCount(2, 2) -> 0");
    }

    @Says("Returns the discrepancy of a letter.")
    static void promise43_everyLetter(Ask ask) {
        // For 0: 0 2 1 0 -1 1 3 2; for 1: 0 -1 1 3 2 1 0 -1; for 2: 0 -1 -2 -3 -1 -2 -3 -1.
        ask.scene("configure(3, 2)", "letters(0112002)").keeps("discrepancy(0) -> 4", "discrepancy(1) -> 4", "discrepancy(2) -> 3");
    }

    @Says({"Returns the autocorrelation of the sequence, computed in double arithmetic.",
        "Let L be the length, x(i) the letter at position i modulo L, and m the sum of all letters divided by L.",
        "For i = 0, 1, .., L - 1 in this order, (x(i) - m) * (x(i + shift) - m) is added to a, and (x(i) - m) * (x(i) - m) is added to b; both are 0.0 "
            + "at first. The autocorrelation is a / b."})
    static void promise44_inDoubleArithmetic(Ask ask) {
        // m is 1/3 rounded; the sums are rounded in the order of the positions.
        double m = 1.0 / 3.0;
        double a = (0.0 - m) * (0.0 - m) + (0.0 - m) * (1.0 - m) + (1.0 - m) * (0.0 - m);
        double b = (0.0 - m) * (0.0 - m) + (0.0 - m) * (0.0 - m) + (1.0 - m) * (1.0 - m);
        ask.scene("letters(001)").does("autocorrelationBits(1) -> " + Double.doubleToLongBits(a / b));
        // m is 2: the products for the shift 1 are 2, -1, -1, 1 and -2, the squares 4, 1, 1, 1 and 1.
        ask.scene("configure(4, 2)", "letters(01333)").does("autocorrelationBits(1) -> 0.125", "autocorrelationBits(0) -> 1.0");
        for (int[] shape : SHAPES) {
            DeBruijnWorkbench x = bench(shape);
            x.construct(0, 0);
            String word = Due.letters(x);
            for (int shift = 0; shift <= 256; shift++) {
                ask.that(x.autocorrelationBits(shift) == correlationBits(word, shift), Arrays.toString(shape) + ": autocorrelation of shift " + shift);
            }
        }
    }

    private static long correlationBits(String word, int shift) {
        int length = word.length();
        double m = (double) word.chars().map(c -> c - '0').sum() / length;
        double a = 0.0;
        double b = 0.0;
        for (int i = 0; i < length; i++) {
            a += (word.charAt(i) - '0' - m) * (word.charAt((i + shift) % length) - '0' - m);
            b += (word.charAt(i) - '0' - m) * (word.charAt(i) - '0' - m);
        }
        return Double.doubleToLongBits(a / b);
    }

    @Says("Methods with a result of type long return the same error codes; these are not the bits of any number as Double.doubleToLongBits returns them.")
    static void promise44_errorCodesAreNoBits(Ask ask) {
        ask.scene("letters(01)").keeps("autocorrelationBits(-1) -> -1");
        ask.scene().keeps("autocorrelationBits(0) -> -3");
        ask.scene("letters(1)").keeps("autocorrelationBits(0) -> -8");
        for (long code : new long[] {-1L, -3L, -8L}) {
            ask.that(Double.doubleToLongBits(Double.longBitsToDouble(code)) != code, code + " is the bits of a number");
        }
    }

    // Promises 45 to 48: undo and the snapshot.

    @Says({"Undoes the latest edit that is not undone.", "Returns the length of the sequence, or NOTHING_SAVED if there is no edit to undo."})
    static void promise45_oneAfterTheOther(Ask ask) {
        ask.scene("letters(011)", "rotate(1)", "construct(1, 0)").does("undo() -> 3", "sequence -> 110", "undo() -> 3", "sequence -> 011", "undo() -> 2",
            "sequence -> 01", "complement() -> 1", "sequence -> 10", "undo() -> 2", "sequence -> 01", "undo() -> 1", "sequence -> 0", "undo() -> 0",
            "undo() -> NOTHING_SAVED");
    }

    @Says("Returns the number of edits that can be undone.")
    static void promise46_upAndDown(Ask ask) {
        ask.scene().does("appendLetter(1)", "undoCount() -> 1", "reverse()", "undoCount() -> 2", "construct(2, 0)", "undoCount() -> 3", "undo()",
            "undoCount() -> 2", "rotate(0)", "undoCount() -> 3", "undo()", "undo()", "undo()", "undoCount() -> 0");
    }

    @Says("Saves a snapshot of k, n and the sequence.")
    static void promise47_whatComesLaterIsNotSaved(Ask ask) {
        ask.scene("configure(3, 3)", "letters(0212)").does("save() -> 4", "appendLetter(1) -> 5", "configure(2, 2) -> 4", "construct(0, 0) -> 4",
            "restore() -> 4", "letterCount() -> 3", "order() -> 3", "sequence -> 0212");
    }

    @Says("Returns the length of the sequence, or NOTHING_SAVED if there is no snapshot.")
    static void promise48_again(Ask ask) {
        ask.scene("configure(3, 3)", "letters(0212)").does("restore() -> NOTHING_SAVED", "sequence -> 0212", "save() -> 4", "construct(1, 0) -> 27",
            "restore() -> 4", "sequence -> 0212", "reverse() -> 0", "restore() -> 4", "sequence -> 0212");
    }

    // Promises 49 to 53: tables.

    @Says({"Returns 1", "There are two tables, numbered 0 and 1.",
        "A table is missing, as both are at first, or it is an array with elements of type byte (type 0) or char (type 1)."})
    static void promise49_twoTablesOfTwoTypes(Ask ask) {
        ask.scene().does("readTable(0, 0) -> MISSING_TABLE", "readTable(1, 0) -> MISSING_TABLE", "createTable(0, 0, 2) -> 1", "createTable(1, 1, 3) -> 1",
            "writeTable(0, 1, 200) -> 1", "writeTable(1, 2, 200) -> 1", "readTable(0, 1) -> -56", "readTable(1, 2) -> 200", "readTable(0, 0) -> 0",
            "createTable(0, 1, 2) -> 1", "writeTable(0, 1, 200) -> 1", "readTable(0, 1) -> 200", "createTable(1, 0, 3) -> 1", "readTable(1, 2) -> 0",
            "writeTable(1, 2, 200) -> 1", "readTable(1, 2) -> -56");
    }

    @Says({"Sets an element of a table.", "`index`: the index", "`value`: the value", "Returns 1"})
    static void promise50_oneElementAlone(Ask ask) {
        ask.scene("createTable(0, 0, 4)", "createTable(1, 1, 4)").does("writeTable(0, 2, 77) -> 1", "readTable(0, 0) -> 0", "readTable(0, 1) -> 0",
            "readTable(0, 2) -> 77", "readTable(0, 3) -> 0", "readTable(1, 2) -> 0", "writeTable(1, 0, 300) -> 1", "readTable(1, 0) -> 300",
            "readTable(1, 1) -> 0", "readTable(0, 0) -> 0", "writeTable(0, 2, 5) -> 1", "readTable(0, 2) -> 5", "undoCount() -> 0");
    }

    @Says({"Returns an element of a table.", "`index`: the index"})
    static void promise51_everyElement(Ask ask) {
        ask.scene("createTable(0, 1, 3)", "writeTable(0, 0, 5)", "writeTable(0, 1, 6)", "writeTable(0, 2, 7)").keeps("readTable(0, 0) -> 5",
            "readTable(0, 1) -> 6", "readTable(0, 2) -> 7", "readTable(0, 3) -> OUT_OF_BOUNDS", "readTable(1, 0) -> MISSING_TABLE");
    }

    @Says("Copies the sequence to a table, in ascending order of the positions, from an index on: to a byte table the letters, to a char table the "
        + "characters a, b, c, d for the letters 0 to 3.")
    static void promise52_fromAnIndexOn(Ask ask) {
        ask.scene("configure(4, 2)", "letters(2031)", "createTable(0, 0, 6)", "createTable(1, 1, 6)").does("exportTable(0, 1) -> 4", "readTable(0, 0) -> 0",
            "readTable(0, 1) -> 2", "readTable(0, 2) -> 0", "readTable(0, 3) -> 3", "readTable(0, 4) -> 1", "readTable(0, 5) -> 0",
            "exportTable(1, 2) -> 4", "readTable(1, 1) -> 0", "readTable(1, 2) -> 99", "readTable(1, 3) -> 97", "readTable(1, 4) -> 100",
            "readTable(1, 5) -> 98", "sequence -> 2031");
    }

    @Says({"Replaces the sequence by all elements of a table, which have the same meaning as in exportTable.", "`table`: the table, 0 or 1",
        "Returns the new length", "The empty sequence is exported wherever it would begin, and a table of the length 0 gives the empty sequence, which is an edit."})
    static void promise53_whatWasExported(Ask ask) {
        ask.scene("configure(4, 2)", "letters(2031)", "createTable(0, 0, 5)", "createTable(1, 1, 4)", "exportTable(0, 1)", "exportTable(1, 0)",
            "reverse()").does("importTable(0, 0) -> 5", "sequence -> 02031", "importTable(1, 1) -> 4", "sequence -> 2031", "undo() -> 5",
                "sequence -> 02031", "undo() -> 4", "sequence -> 1302");
        ask.scene("createTable(1, 1, 0)").does("exportTable(1, 5) -> 0", "importTable(1, 1) -> 0", "undoCount() -> 1");
    }
}
