/** Both sides of every boundary that the promises 18 to 36 name: blocks, the linear form, necklaces and Lyndon words. */
public final class Boundary18to36Test {
    /** For each shape k, n and the number of blocks: the smallest and the largest of them. */
    private static final int[][] SHAPES = {{2, 1, 2}, {2, 6, 64}, {3, 1, 3}, {3, 5, 243}, {4, 1, 4}, {4, 4, 256}};

    public static void main(String[] args) throws Exception {
        Ask.run(Boundary18to36Test.class, 18, 36);
    }

    /** Codes that are no blocks, for a call with the block in the place of %s. */
    private static void refusesOtherCodes(Ask ask, String call) {
        for (String code : new String[] {"-1", "9", "10", "MIN", "MAX"}) {
            ask.busy().keeps(String.format(call, code) + " -> BAD_ARGUMENT");
            ask.scene("configure(3, 2)").keeps(String.format(call, code) + " -> BAD_ARGUMENT");
        }
        for (int[] shape : SHAPES) {
            ask.scene(configured(shape), "letters(01)")
                .keeps(String.format(call, "-1") + " -> BAD_ARGUMENT", String.format(call, "" + shape[2]) + " -> BAD_ARGUMENT");
        }
    }

    private static String configured(int[] shape) {
        return "configure(" + shape[0] + ", " + shape[1] + ")";
    }

    // Promise 18: blockAt.

    @Says("Returns the code of the block, or NONE if there is no such position.")
    static void promise18_positions(Ask ask) {
        ask.busy().keeps("blockAt(0) -> 2", "blockAt(3) -> 5", "blockAt(4) -> 6", "blockAt(5) -> NONE", "blockAt(-1) -> NONE",
            "blockAt(MIN) -> NONE", "blockAt(MAX) -> NONE");
        ask.scene().keeps("blockAt(0) -> NONE", "blockAt(-1) -> NONE");
    }

    @Says("is the letter at position (i + j) modulo the length")
    static void promise18_blocksRoundTheEnd(Ask ask) {
        ask.scene("letters(0111)").keeps("blockAt(1) -> 7", "blockAt(2) -> 6", "blockAt(3) -> 5");
        ask.scene("configure(4, 4)", "construct(1, 0)").keeps("blockAt(0) -> 0", "blockAt(252) -> 255", "blockAt(253) -> 252",
            "blockAt(255) -> 192", "blockAt(256) -> NONE");
    }

    @Says("this also holds if the sequence is shorter than n")
    static void promise18_shorterThanTheOrder(Ask ask) {
        ask.scene("configure(2, 6)", "letters(1)").keeps("blockAt(0) -> 63", "blockAt(1) -> NONE");
        ask.scene("configure(2, 6)", "letters(01)").keeps("blockAt(0) -> 21", "blockAt(1) -> 42", "blockAt(2) -> NONE");
        ask.scene("configure(2, 6)", "letters(00110)").keeps("blockAt(0) -> 12", "blockAt(4) -> 6");
        ask.scene("configure(4, 4)", "letters(3)").keeps("blockAt(0) -> 255");
    }

    @Says("the number from 0 to k^n - 1 whose n digits to the base k are its letters")
    static void promise18_leastAndGreatestCode(Ask ask) {
        ask.scene("configure(4, 1)", "letters(30)").keeps("blockAt(0) -> 3", "blockAt(1) -> 0");
        ask.scene("configure(3, 5)", "letters(0000022222)").keeps("blockAt(0) -> 0", "blockAt(5) -> 242", "blockAt(1) -> 2", "blockAt(9) -> 162");
    }

    // Promise 19: positionOf.

    @Says("BAD_ARGUMENT if the code is out of range")
    static void promise19_codes(Ask ask) {
        refusesOtherCodes(ask, "positionOf(%s)");
        for (int[] shape : SHAPES) {
            ask.scene(configured(shape), "letters(" + (shape[0] - 1) + ")").keeps("positionOf(" + (shape[2] - 1) + ") -> 0", "positionOf(0) -> NONE");
            ask.scene(configured(shape), "letters(0)").keeps("positionOf(0) -> 0", "positionOf(" + (shape[2] - 1) + ") -> NONE");
        }
    }

    @Says({"Returns the first position at which a block occurs.", "NONE if the block does not occur"})
    static void promise19_firstLastOrNoPosition(Ask ask) {
        ask.busy().keeps("positionOf(2) -> 0", "positionOf(6) -> 4", "positionOf(0) -> NONE", "positionOf(8) -> NONE");
        ask.scene("configure(2, 2)", "letters(01010)").keeps("positionOf(1) -> 0", "positionOf(2) -> 1", "positionOf(0) -> 4", "positionOf(3) -> NONE");
        ask.scene().keeps("positionOf(0) -> NONE", "positionOf(7) -> NONE");
        ask.scene("configure(4, 4)", "construct(1, 0)").keeps("positionOf(0) -> 0", "positionOf(192) -> 255", "positionOf(255) -> 252");
    }

    @Says("this also holds if the sequence is shorter than n")
    static void promise19_shorterThanTheOrder(Ask ask) {
        ask.scene("configure(2, 6)", "letters(01)").keeps("positionOf(21) -> 0", "positionOf(42) -> 1", "positionOf(1) -> NONE");
    }

    // Promise 20: letterAfter.

    @Says("BAD_ARGUMENT if the code is out of range")
    static void promise20_codes(Ask ask) {
        refusesOtherCodes(ask, "letterAfter(%s)");
        for (int[] shape : SHAPES) {
            String top = "" + (shape[0] - 1);
            ask.scene(configured(shape), "letters(" + top + ")").keeps("letterAfter(" + (shape[2] - 1) + ") -> " + top, "letterAfter(0) -> NONE");
        }
    }

    @Says("NONE if the block does not occur")
    static void promise20_missingBlocks(Ask ask) {
        ask.busy().keeps("letterAfter(0) -> NONE", "letterAfter(8) -> NONE");
        ask.scene().keeps("letterAfter(0) -> NONE", "letterAfter(7) -> NONE");
    }

    @Says("if the block occurs first at position i, the letter at position (i + n) modulo the length")
    static void promise20_roundTheEnd(Ask ask) {
        // 12 stands at position 3, 20 at position 4 of 02112.
        ask.busy().keeps("letterAfter(2) -> 1", "letterAfter(5) -> 0", "letterAfter(6) -> 2", "letterAfter(4) -> 2");
        // 01 stands at positions 0 and 2: only the first is followed by 1.
        ask.scene("configure(2, 2)", "letters(01101)").keeps("letterAfter(1) -> 1");
        ask.scene("configure(2, 2)", "letters(01011)").keeps("letterAfter(1) -> 0");
        ask.scene("configure(4, 4)", "construct(1, 0)").keeps("letterAfter(255) -> 0", "letterAfter(192) -> 0", "letterAfter(252) -> 0");
    }

    @Says("this also holds if the sequence is shorter than n")
    static void promise20_shorterThanTheOrder(Ask ask) {
        ask.scene("configure(2, 5)", "letters(01)").keeps("letterAfter(10) -> 1", "letterAfter(21) -> 0");
        ask.scene("configure(2, 6)", "letters(01)").keeps("letterAfter(21) -> 0", "letterAfter(42) -> 1");
        ask.scene("configure(4, 1)", "letters(3)").keeps("letterAfter(3) -> 3");
    }

    // Promise 21: occurrences.

    @Says("BAD_ARGUMENT if the code is out of range")
    static void promise21_codes(Ask ask) {
        refusesOtherCodes(ask, "occurrences(%s)");
        for (int[] shape : SHAPES) {
            ask.scene(configured(shape), "letters(0" + (shape[0] - 1) + ")").keeps("occurrences(0) -> " + (shape[1] == 1 ? 1 : 0));
            ask.scene(configured(shape), "letters(" + (shape[0] - 1) + ")").keeps("occurrences(" + (shape[2] - 1) + ") -> 1");
        }
    }

    @Says("Returns the number of positions at which a block occurs.")
    static void promise21_noneToAll(Ask ask) {
        ask.scene().keeps("occurrences(0) -> 0", "occurrences(7) -> 0");
        ask.scene("createTable(0, 0, 256)", "importTable(0, 0)").keeps("occurrences(0) -> 256", "occurrences(1) -> 0");
        ask.busy().keeps("occurrences(0) -> 0", "occurrences(6) -> 1");
        ask.scene("configure(2, 2)", "letters(01010)").keeps("occurrences(1) -> 2", "occurrences(0) -> 1", "occurrences(2) -> 2");
        ask.scene("configure(2, 6)", "letters(11)").keeps("occurrences(63) -> 2");
    }

    // Promise 22: distance.

    @Says("BAD_ARGUMENT if a code is out of range (checked first)")
    static void promise22_codes(Ask ask) {
        refusesOtherCodes(ask, "distance(%s, 2)");
        refusesOtherCodes(ask, "distance(1, %s)");
        refusesOtherCodes(ask, "distance(0, %s)");
        refusesOtherCodes(ask, "distance(%s, 0)");
        ask.busy().keeps("distance(MIN, MIN) -> BAD_ARGUMENT", "distance(MAX, MAX) -> BAD_ARGUMENT", "distance(9, -1) -> BAD_ARGUMENT");
    }

    @Says("NONE if one of the blocks does not occur")
    static void promise22_missingBlocks(Ask ask) {
        ask.busy().keeps("distance(2, 8) -> NONE", "distance(8, 2) -> NONE", "distance(8, 8) -> NONE", "distance(0, 2) -> NONE", "distance(2, 0) -> NONE");
        ask.scene().keeps("distance(0, 0) -> NONE", "distance(0, 7) -> NONE");
    }

    @Says("modulo the length, where the result of modulo is not negative")
    static void promise22_zeroToLengthMinusOne(Ask ask) {
        // 00010111 begins with 000 and ends with 100 round the end.
        ask.scene("construct(1, 0)").keeps("distance(0, 4) -> 7", "distance(4, 0) -> 1", "distance(4, 4) -> 0", "distance(0, 0) -> 0",
            "distance(1, 0) -> 7", "distance(0, 1) -> 1");
        ask.scene("configure(4, 4)", "construct(1, 0)").keeps("distance(0, 192) -> 255", "distance(192, 0) -> 1", "distance(255, 255) -> 0");
        ask.scene("letters(1)").keeps("distance(7, 7) -> 0");
        // Only first positions count: 01 and 10 stand at 0 and 1 and again later.
        ask.scene("configure(2, 2)", "letters(010101)").keeps("distance(1, 2) -> 1", "distance(2, 1) -> 5");
    }

    // Promise 23: linearLength.

    @Says("The linear form of the empty sequence is empty.")
    static void promise23_empty(Ask ask) {
        ask.scene().keeps("linearLength() -> 0");
        ask.scene("configure(2, 6)").keeps("linearLength() -> 0");
        ask.scene("configure(2, 1)").keeps("linearLength() -> 0");
    }

    @Says("all letters of the sequence followed by n - 1 further letters")
    static void promise23_leastAndGreatest(Ask ask) {
        ask.scene("configure(2, 1)", "letters(1)").keeps("linearLength() -> 1");
        ask.scene("configure(2, 6)", "letters(1)").keeps("linearLength() -> 6");
        ask.scene("configure(4, 4)", "construct(0, 0)").keeps("linearLength() -> 259");
        ask.scene("configure(2, 6)", "createTable(0, 0, 256)", "importTable(0, 0)").keeps("linearLength() -> 261");
        ask.busy().keeps("linearLength() -> 6");
    }

    // Promise 24: linearLetter.

    @Says("Returns the letter, or NONE if there is no such position.")
    static void promise24_positions(Ask ask) {
        ask.busy().keeps("linearLetter(0) -> 0", "linearLetter(4) -> 2", "linearLetter(5) -> 0", "linearLetter(6) -> NONE",
            "linearLetter(-1) -> NONE", "linearLetter(MIN) -> NONE", "linearLetter(MAX) -> NONE");
        ask.scene("configure(2, 6)", "createTable(0, 0, 255)", "importTable(0, 0)", "letters(1)").keeps("linearLetter(255) -> 1",
            "linearLetter(256) -> 0", "linearLetter(260) -> 0", "linearLetter(261) -> NONE");
    }

    @Says("NONE if there is no such position")
    static void promise24_empty(Ask ask) {
        ask.scene().keeps("linearLetter(0) -> NONE", "linearLetter(1) -> NONE", "linearLetter(-1) -> NONE");
    }

    @Says("Returns a letter of the linear form.")
    static void promise24_orderOneHasNoFurtherLetters(Ask ask) {
        ask.scene("configure(2, 1)", "letters(01)").keeps("linearLetter(1) -> 1", "linearLetter(2) -> NONE");
    }

    @Says("the further letters of the word that continues the sequence, and a pattern may go round the sequence more than once")
    static void promise24_roundMoreThanOnce(Ask ask) {
        ask.scene("configure(2, 6)", "letters(01)").keeps("linearLetter(2) -> 0", "linearLetter(3) -> 1", "linearLetter(5) -> 1",
            "linearLetter(6) -> 0", "linearLetter(7) -> NONE");
        ask.scene("configure(2, 6)", "letters(1)").keeps("linearLetter(5) -> 1", "linearLetter(6) -> NONE");
    }

    // Promise 25: differentBlocks.

    @Says("Returns the number of different blocks that occur.")
    static void promise25_noneToAll(Ask ask) {
        ask.scene().keeps("differentBlocks() -> 0");
        ask.scene("letters(1)").keeps("differentBlocks() -> 1");
        ask.scene("createTable(0, 0, 256)", "importTable(0, 0)").keeps("differentBlocks() -> 1").does("setLetter(255, 1) -> 0", "differentBlocks() -> 4");
        ask.scene("configure(4, 4)", "construct(3, 63)").keeps("differentBlocks() -> 256");
        ask.scene("configure(2, 1)", "letters(0101)").keeps("differentBlocks() -> 2");
        ask.busy().keeps("differentBlocks() -> 5");
    }

    @Says("this also holds if the sequence is shorter than n")
    static void promise25_shorterThanTheOrder(Ask ask) {
        ask.scene("configure(2, 6)", "letters(01)").keeps("differentBlocks() -> 2");
        ask.scene("configure(2, 6)", "letters(11)").keeps("differentBlocks() -> 1");
        ask.scene("configure(4, 4)", "letters(012)").keeps("differentBlocks() -> 3");
    }

    @Says("Returns the number of different blocks that occur.")
    static void promise25_askedAgain(Ask ask) {
        ask.scene("construct(1, 0)").does("differentBlocks() -> 8", "configure(2, 3) -> 8", "differentBlocks() -> 0", "letters(0)", "differentBlocks() -> 1",
            "setLetter(0, 1) -> 0", "differentBlocks() -> 1", "undo() -> 1", "undo() -> 0", "differentBlocks() -> 0");
    }

    // Promise 26: missingBlock.

    @Says({"the index in the ascending order of the codes of all blocks that do not occur, from 0", "NONE if there is no such index"})
    static void promise26_indices(Ask ask) {
        // 02, 21, 11, 12 and 20 occur.
        ask.busy().keeps("missingBlock(0) -> 0", "missingBlock(1) -> 1", "missingBlock(2) -> 3", "missingBlock(3) -> 8", "missingBlock(4) -> NONE",
            "missingBlock(-1) -> NONE", "missingBlock(MIN) -> NONE", "missingBlock(MAX) -> NONE");
    }

    @Says("NONE if there is no such index")
    static void promise26_allOrNoneMissing(Ask ask) {
        ask.scene().keeps("missingBlock(0) -> 0", "missingBlock(7) -> 7", "missingBlock(8) -> NONE");
        ask.scene("configure(4, 4)").keeps("missingBlock(255) -> 255", "missingBlock(256) -> NONE");
        ask.scene("configure(4, 4)", "construct(2, 0)").keeps("missingBlock(0) -> NONE", "missingBlock(-1) -> NONE");
        ask.scene("construct(0, 0)").keeps("missingBlock(0) -> NONE");
        ask.scene("configure(4, 1)", "letters(012)").keeps("missingBlock(0) -> 3", "missingBlock(1) -> NONE");
    }

    @Says("this also holds if the sequence is shorter than n")
    static void promise26_shorterThanTheOrder(Ask ask) {
        // 010101 and 101010 occur: the codes 21 and 42.
        ask.scene("configure(2, 6)", "letters(01)").keeps("missingBlock(20) -> 20", "missingBlock(21) -> 22", "missingBlock(40) -> 41", "missingBlock(41) -> 43",
            "missingBlock(61) -> 63", "missingBlock(62) -> NONE");
    }

    @Says("Returns a block that does not occur.")
    static void promise26_askedAgain(Ask ask) {
        ask.scene("construct(1, 0)").does("missingBlock(0) -> NONE", "configure(2, 3) -> 8", "missingBlock(0) -> 0", "missingBlock(7) -> 7", "letters(0)",
            "missingBlock(0) -> 1", "setLetter(0, 1) -> 0", "missingBlock(0) -> 0", "missingBlock(7) -> NONE");
    }

    // Promise 27: firstRepeat.

    @Says("Returns the position, or NONE if no block occurs twice.")
    static void promise27_noRepeat(Ask ask) {
        ask.scene().keeps("firstRepeat() -> NONE");
        ask.scene("letters(1)").keeps("firstRepeat() -> NONE");
        ask.scene("construct(1, 0)").keeps("firstRepeat() -> NONE");
        ask.scene("configure(4, 4)", "construct(1, 0)").keeps("firstRepeat() -> NONE");
        ask.busy().keeps("firstRepeat() -> NONE");
    }

    @Says("Returns the first position whose block occurs at a smaller position as well.")
    static void promise27_secondAndLastPosition(Ask ask) {
        ask.scene("letters(11)").keeps("firstRepeat() -> 1");
        ask.scene("configure(2, 6)", "letters(0101)").keeps("firstRepeat() -> 2");
        ask.scene("configure(2, 1)", "letters(010)").keeps("firstRepeat() -> 2");
        // The block of the last position goes round the end.
        ask.scene("configure(2, 2)", "letters(00110)").keeps("firstRepeat() -> 4");
        ask.scene("createTable(0, 0, 256)", "importTable(0, 0)").keeps("firstRepeat() -> 1");
    }

    @Says("this also holds if the sequence is shorter than n")
    static void promise27_shorterThanTheOrder(Ask ask) {
        ask.scene("configure(2, 6)", "letters(01)").keeps("firstRepeat() -> NONE");
        ask.scene("configure(2, 6)", "letters(00)").keeps("firstRepeat() -> 1");
        ask.scene("configure(2, 6)", "letters(00101)").keeps("firstRepeat() -> NONE");
    }

    @Says("whose block occurs at a smaller position as well")
    static void promise27_askedAgain(Ask ask) {
        ask.scene("construct(1, 0)").does("firstRepeat() -> NONE", "firstRepeat() -> NONE", "rotate(1) -> 0", "firstRepeat() -> NONE", "configure(2, 3) -> 8",
            "firstRepeat() -> NONE", "letters(11)", "firstRepeat() -> 1");
    }

    // Promise 28: isDeBruijn.

    @Says("The sequence is a de Bruijn sequence if its length is k^n and every block occurs exactly once.")
    static void promise28_oneLetterTooFewOrTooMany(Ask ask) {
        ask.scene("configure(2, 2)", "letters(001)").keeps("isDeBruijn() -> 0").does("appendLetter(1) -> 4", "isDeBruijn() -> 1",
            "appendLetter(0) -> 5", "isDeBruijn() -> 0", "differentBlocks() -> 4");
    }

    @Says("every block occurs exactly once")
    static void promise28_oneBlockTwice(Ask ask) {
        ask.scene("configure(2, 2)", "letters(0010)").keeps("isDeBruijn() -> 0");
        ask.scene("configure(2, 2)", "letters(0101)").keeps("isDeBruijn() -> 0");
        ask.scene("configure(4, 4)", "construct(1, 0)").keeps("isDeBruijn() -> 1").does("setLetter(255, 2) -> 3", "isDeBruijn() -> 0");
    }

    @Says("Returns 1 or 0.")
    static void promise28_emptyAndOrderOne(Ask ask) {
        ask.scene().keeps("isDeBruijn() -> 0");
        ask.scene("configure(2, 1)").keeps("isDeBruijn() -> 0").does("appendLetter(1) -> 1", "isDeBruijn() -> 0", "appendLetter(0) -> 2", "isDeBruijn() -> 1");
        ask.scene("configure(4, 1)", "letters(3120)").keeps("isDeBruijn() -> 1");
        ask.scene("configure(4, 1)", "letters(3122)").keeps("isDeBruijn() -> 0");
    }

    // Promise 29: successorLetter.

    @Says("BAD_ARGUMENT if the code is out of range")
    static void promise29_codes(Ask ask) {
        refusesOtherCodes(ask, "successorLetter(%s)");
        for (int[] shape : SHAPES) {
            // Of the greatest block t is k - 1, but with order 1, where t is 1.
            int last = shape[1] == 1 ? 0 : shape[0] - 2;
            ask.scene(configured(shape)).keeps("successorLetter(0) -> 1", "successorLetter(" + (shape[2] - 1) + ") -> " + last);
        }
    }

    @Says("If there is no such t, or a is less than t - 1, the successor letter is a.")
    static void promise29_noSuchLetter(Ask ask) {
        // u is 10, and 101 is no necklace.
        ask.scene().keeps("successorLetter(2) -> 0", "successorLetter(6) -> 1");
        ask.scene("configure(3, 3)").keeps("successorLetter(3) -> 0", "successorLetter(12) -> 1", "successorLetter(21) -> 2");
    }

    @Says({"a is less than t - 1", "If a is k - 1, it is t - 1. Otherwise it is a + 1."})
    static void promise29_firstLetterAndT(Ask ask) {
        // u is 2, so t is 2: the blocks 02, 12, 22.
        ask.scene("configure(3, 2)").keeps("successorLetter(2) -> 0", "successorLetter(5) -> 2", "successorLetter(8) -> 1");
        // u is 1, so t is 1: the blocks 01, 11, 21.
        ask.scene("configure(3, 2)").keeps("successorLetter(1) -> 1", "successorLetter(4) -> 2", "successorLetter(7) -> 0");
        // u is 3, so t is 3: the blocks 03, 13, 23, 33; then u is 2, so t is 2.
        ask.scene("configure(4, 2)").keeps("successorLetter(3) -> 0", "successorLetter(7) -> 1", "successorLetter(11) -> 3", "successorLetter(15) -> 2",
            "successorLetter(2) -> 0", "successorLetter(6) -> 2", "successorLetter(10) -> 3", "successorLetter(14) -> 1");
    }

    @Says("the smallest letter that is at least 1 and for which u t is a necklace")
    static void promise29_orderOne(Ask ask) {
        ask.scene("configure(4, 1)").keeps("successorLetter(0) -> 1", "successorLetter(1) -> 2", "successorLetter(2) -> 3", "successorLetter(3) -> 0");
        ask.scene("configure(2, 1)").keeps("successorLetter(0) -> 1", "successorLetter(1) -> 0");
    }

    // Promise 30: follow.

    @Says("BAD_ARGUMENT if the code or the number of steps is out of range")
    static void promise30_codes(Ask ask) {
        refusesOtherCodes(ask, "follow(%s, 0)");
        refusesOtherCodes(ask, "follow(%s, 300)");
        for (int[] shape : SHAPES) {
            ask.scene(configured(shape)).keeps("follow(0, 0) -> 0", "follow(" + (shape[2] - 1) + ", 0) -> " + (shape[2] - 1),
                "follow(0, " + shape[2] + ") -> 0", "follow(" + (shape[2] - 1) + ", " + shape[2] + ") -> " + (shape[2] - 1));
        }
    }

    @Says("the number of steps, 0 to 300")
    static void promise30_steps(Ask ask) {
        // The cycle from 00 on is 00 01 11 12 22 21 10 02 20; 300 steps are 33 rounds and 3 steps.
        ask.busy().keeps("follow(5, -1) -> BAD_ARGUMENT", "follow(5, 0) -> 5", "follow(5, 1) -> 8", "follow(5, 299) -> 7", "follow(5, 300) -> 3",
            "follow(5, 301) -> BAD_ARGUMENT", "follow(5, MIN) -> BAD_ARGUMENT", "follow(5, MAX) -> BAD_ARGUMENT");
        ask.busy().keeps("follow(9, 301) -> BAD_ARGUMENT", "follow(-1, -1) -> BAD_ARGUMENT", "follow(MIN, MIN) -> BAD_ARGUMENT",
            "follow(MAX, MAX) -> BAD_ARGUMENT");
    }

    // Promises 31 to 33: isNecklace, necklaceOf, rotationCount.

    @Says("Returns 1 or 0; BAD_ARGUMENT if the code is out of range.")
    static void promise31_codes(Ask ask) {
        refusesOtherCodes(ask, "isNecklace(%s)");
        for (int[] shape : SHAPES) {
            ask.scene(configured(shape)).keeps("isNecklace(0) -> 1", "isNecklace(" + (shape[2] - 1) + ") -> 1");
        }
    }

    @Says("A word is a necklace if no rotation of it is lexicographically smaller.")
    static void promise31_equalRotationsAreNotSmaller(Ask ask) {
        ask.scene("configure(2, 4)").keeps("isNecklace(5) -> 1", "isNecklace(10) -> 0", "isNecklace(3) -> 1", "isNecklace(6) -> 0", "isNecklace(8) -> 0");
        ask.scene("configure(4, 1)").keeps("isNecklace(1) -> 1", "isNecklace(2) -> 1");
        // Only the last of the rotations is smaller.
        ask.scene("configure(2, 6)").keeps("isNecklace(2) -> 0", "isNecklace(32) -> 0", "isNecklace(62) -> 0", "isNecklace(31) -> 1");
    }

    @Says("Returns the code of the necklace; BAD_ARGUMENT if the code is out of range.")
    static void promise32_codes(Ask ask) {
        refusesOtherCodes(ask, "necklaceOf(%s)");
        for (int[] shape : SHAPES) {
            ask.scene(configured(shape)).keeps("necklaceOf(0) -> 0", "necklaceOf(" + (shape[2] - 1) + ") -> " + (shape[2] - 1));
        }
    }

    @Says("Returns the necklace among the rotations of a block.")
    static void promise32_firstAndLastRotation(Ask ask) {
        ask.scene("configure(2, 6)").keeps("necklaceOf(1) -> 1", "necklaceOf(2) -> 1", "necklaceOf(32) -> 1", "necklaceOf(42) -> 21", "necklaceOf(62) -> 31");
        ask.scene("configure(4, 1)").keeps("necklaceOf(1) -> 1", "necklaceOf(2) -> 2");
    }

    @Says("Returns the number of rotations, which divides n; BAD_ARGUMENT if the code is out of range.")
    static void promise33_codes(Ask ask) {
        refusesOtherCodes(ask, "rotationCount(%s)");
        for (int[] shape : SHAPES) {
            ask.scene(configured(shape)).keeps("rotationCount(0) -> 1", "rotationCount(" + (shape[2] - 1) + ") -> 1");
        }
    }

    @Says("the number of rotations, which divides n")
    static void promise33_everyDivisorOfSix(Ask ask) {
        ask.scene("configure(2, 6)").keeps("rotationCount(63) -> 1", "rotationCount(21) -> 2", "rotationCount(42) -> 2", "rotationCount(9) -> 3",
            "rotationCount(54) -> 3", "rotationCount(1) -> 6", "rotationCount(11) -> 6", "rotationCount(62) -> 6");
        ask.scene("configure(4, 1)").keeps("rotationCount(1) -> 1", "rotationCount(3) -> 1");
        ask.scene("configure(3, 5)").keeps("rotationCount(1) -> 5", "rotationCount(121) -> 1", "rotationCount(241) -> 5");
    }

    // Promise 34: necklace.

    @Says({"the index in ascending order of the codes of all blocks that are necklaces, from 0", "NONE if there is no such index"})
    static void promise34_indices(Ask ask) {
        // For three letters and order 2: 00 01 02 11 12 22.
        ask.busy().keeps("necklace(-1) -> NONE", "necklace(0) -> 0", "necklace(1) -> 1", "necklace(3) -> 4", "necklace(5) -> 8", "necklace(6) -> NONE",
            "necklace(MIN) -> NONE", "necklace(MAX) -> NONE");
        int[] counts = {2, 14, 3, 51, 4, 70};
        for (int i = 0; i < counts.length; i++) {
            ask.scene(configured(SHAPES[i])).keeps("necklace(0) -> 0", "necklace(" + (counts[i] - 1) + ") -> " + (SHAPES[i][2] - 1),
                "necklace(" + counts[i] + ") -> NONE");
        }
    }

    // Promises 35 and 36: lyndonCount, lyndonWord.

    @Says({"the length, 1 to n", "Returns the number of Lyndon words over the alphabet, or BAD_ARGUMENT."})
    static void promise35_lengths(Ask ask) {
        ask.busy().keeps("lyndonCount(0) -> BAD_ARGUMENT", "lyndonCount(1) -> 3", "lyndonCount(2) -> 3", "lyndonCount(3) -> BAD_ARGUMENT",
            "lyndonCount(-1) -> BAD_ARGUMENT", "lyndonCount(MIN) -> BAD_ARGUMENT", "lyndonCount(MAX) -> BAD_ARGUMENT");
        int[] counts = {2, 9, 3, 48, 4, 60};
        for (int i = 0; i < counts.length; i++) {
            int order = SHAPES[i][1];
            ask.scene(configured(SHAPES[i])).keeps("lyndonCount(0) -> BAD_ARGUMENT", "lyndonCount(1) -> " + SHAPES[i][0],
                "lyndonCount(" + order + ") -> " + counts[i], "lyndonCount(" + (order + 1) + ") -> BAD_ARGUMENT");
        }
    }

    @Says("BAD_ARGUMENT if the length is out of range")
    static void promise36_lengths(Ask ask) {
        ask.busy().keeps("lyndonWord(0, 0) -> BAD_ARGUMENT", "lyndonWord(1, 0) -> 0", "lyndonWord(2, 0) -> 1", "lyndonWord(3, 0) -> BAD_ARGUMENT",
            "lyndonWord(-1, 0) -> BAD_ARGUMENT", "lyndonWord(MIN, 0) -> BAD_ARGUMENT", "lyndonWord(MAX, 0) -> BAD_ARGUMENT");
    }

    @Says({"the index in ascending lexicographic order of all Lyndon words of this length, from 0", "NONE if there is no such index"})
    static void promise36_indices(Ask ask) {
        ask.busy().keeps("lyndonWord(1, -1) -> NONE", "lyndonWord(1, 2) -> 2", "lyndonWord(1, 3) -> NONE", "lyndonWord(2, -1) -> NONE",
            "lyndonWord(2, 1) -> 2", "lyndonWord(2, 2) -> 5", "lyndonWord(2, 3) -> NONE", "lyndonWord(2, MIN) -> NONE", "lyndonWord(2, MAX) -> NONE");
        int[] counts = {2, 9, 3, 48, 4, 60};
        // The greatest Lyndon word of more than one letter is k - 2 and then k - 1 alone.
        int[] greatest = {1, 31, 2, 161, 3, 191};
        for (int i = 0; i < counts.length; i++) {
            int order = SHAPES[i][1];
            ask.scene(configured(SHAPES[i])).keeps("lyndonWord(" + order + ", " + (counts[i] - 1) + ") -> " + greatest[i],
                "lyndonWord(" + order + ", " + counts[i] + ") -> NONE");
        }
    }

    @Says("If several errors apply, the one that is listed first is returned.")
    static void promise36_badLengthAndNoIndex(Ask ask) {
        ask.busy().keeps("lyndonWord(0, -1) -> BAD_ARGUMENT", "lyndonWord(3, MAX) -> BAD_ARGUMENT", "lyndonWord(MIN, MIN) -> BAD_ARGUMENT",
            "lyndonWord(MAX, MAX) -> BAD_ARGUMENT");
    }
}
