/** Both sides of every boundary that the promises 1 to 17 name: the new object, constructions, commands and edits. */
public final class Boundary01to17Test {
    public static void main(String[] args) throws Exception {
        Ask.run(Boundary01to17Test.class, 1, 17);
    }

    // Promise 1: A new object.

    @Says({"Creates a workbench with two letters, order 3 and an empty sequence.", "At first k = 2 and n = 3."})
    static void promise01_twoLettersAndOrderThree(Ask ask) {
        ask.scene().keeps("letterCount() -> 2", "order() -> 3", "length() -> 0", "letter(0) -> NONE",
            "appendLetter(2) -> BAD_ARGUMENT", "positionOf(7) -> NONE", "positionOf(8) -> BAD_ARGUMENT");
    }

    @Says("The pattern is a word of at most 8 elements and is empty at first.")
    static void promise01_thePatternIsEmpty(Ask ask) {
        ask.scene().keeps("clearPattern() -> 0", "patternCount() -> 0").does("appendPattern(0) -> 1");
    }

    @Says("A table is missing, as both are at first")
    static void promise01_bothTablesAreMissing(Ask ask) {
        ask.scene().keeps("readTable(0, 0) -> MISSING_TABLE", "readTable(1, 0) -> MISSING_TABLE");
    }

    @Says("There is nothing to undo or to restore.")
    static void promise01_nothingToUndoOrRestore(Ask ask) {
        ask.scene().keeps("undoCount() -> 0", "undo() -> NOTHING_SAVED", "restore() -> NOTHING_SAVED");
    }

    @Says("The command has an unknown name.")
    static void promise01_theCommandIsEmpty(Ask ask) {
        ask.scene().keeps("runCommand() -> UNKNOWN_NAME").does("appendCommand('g') -> 1");
    }

    // Promise 2: configure.

    @Says({"the number of letters k, 2 to 4", "BAD_ARGUMENT if an argument is out of range"})
    static void promise02_lettersTwoToFour(Ask ask) {
        ask.busy().keeps("configure(1, 2) -> BAD_ARGUMENT", "configure(5, 2) -> BAD_ARGUMENT", "configure(0, 2) -> BAD_ARGUMENT",
            "configure(-2, 2) -> BAD_ARGUMENT", "configure(MIN, 2) -> BAD_ARGUMENT", "configure(MAX, 2) -> BAD_ARGUMENT");
        ask.busy().does("configure(2, 2) -> 4", "configure(3, 2) -> 9", "configure(4, 2) -> 16");
    }

    @Says({"the order n, 1 to 6", "BAD_ARGUMENT if an argument is out of range"})
    static void promise02_orderOneToSix(Ask ask) {
        ask.busy().keeps("configure(2, 0) -> BAD_ARGUMENT", "configure(2, 7) -> BAD_ARGUMENT", "configure(2, 8) -> BAD_ARGUMENT",
            "configure(2, -1) -> BAD_ARGUMENT", "configure(2, MIN) -> BAD_ARGUMENT", "configure(2, MAX) -> BAD_ARGUMENT",
            "configure(MIN, MIN) -> BAD_ARGUMENT", "configure(MAX, MAX) -> BAD_ARGUMENT", "configure(4, 0) -> BAD_ARGUMENT");
        ask.busy().does("configure(2, 1) -> 2", "configure(2, 6) -> 64", "configure(3, 1) -> 3", "configure(4, 1) -> 4");
    }

    @Says({"k^n must not exceed 256.", "or k^n exceeds 256"})
    static void promise02_atMost256Blocks(Ask ask) {
        ask.busy().keeps("configure(3, 6) -> BAD_ARGUMENT", "configure(4, 5) -> BAD_ARGUMENT", "configure(4, 6) -> BAD_ARGUMENT");
        ask.busy().does("configure(3, 5) -> 243", "configure(4, 4) -> 256");
    }

    @Says({"The sequence and the pattern become empty, and all earlier sequences are forgotten.",
        "configure and restore make the pattern empty.", "configure and restore forget all earlier sequences."})
    static void promise02_forgetsSequencesAndPattern(Ask ask) {
        ask.busy().does("configure(3, 2) -> 9", "length() -> 0", "sequence -> ", "undoCount() -> 0", "undo() -> NOTHING_SAVED",
            "clearPattern() -> 0");
        ask.scene("construct(0, 0)", "elements(0 0 0 0 0 0 0 0)", "configure(2, 3)").does("length() -> 0", "appendPattern(1) -> 1");
    }

    @Says("The command, the tables and the snapshot stay.")
    static void promise02_leavesTheRest(Ask ask) {
        ask.busy().does("configure(4, 2) -> 16", "readTable(0, 0) -> 2", "readTable(0, 1) -> 0", "readTable(0, 2) -> 1",
            "readTable(0, 3) -> OUT_OF_BOUNDS", "readTable(1, 0) -> 98", "readTable(1, 1) -> 99", "appendCommand('1') -> 8",
            "runCommand() -> 16", "restore() -> 3", "letterCount() -> 2", "order() -> 3", "sequence -> 011");
    }

    // Promises 3 and 4: letterCount, order.

    @Says("Returns the number of letters k.")
    static void promise03_leastAndGreatest(Ask ask) {
        ask.scene("configure(2, 1)").keeps("letterCount() -> 2").does("configure(4, 1) -> 4", "letterCount() -> 4");
        ask.busy("configure(5, 1)", "configure(4, 5)").keeps("letterCount() -> 3").does("undo() -> 4", "letterCount() -> 3");
    }

    @Says("Returns the order n.")
    static void promise04_leastAndGreatest(Ask ask) {
        ask.scene("configure(2, 1)").keeps("order() -> 1").does("configure(2, 6) -> 64", "order() -> 6");
        ask.busy("configure(2, 7)", "configure(2, 0)", "configure(4, 5)").keeps("order() -> 2").does("undo() -> 4", "order() -> 2");
    }

    // Promise 5: length.

    @Says({"Returns the length, 0 to 256.", "The sequence is a cyclic word of at most 256 letters and is empty at first."})
    static void promise05_zeroTo256(Ask ask) {
        ask.scene().keeps("length() -> 0");
        ask.scene("createTable(0, 0, 255)", "importTable(0, 0)").keeps("length() -> 255")
            .does("appendLetter(1) -> 256", "length() -> 256", "appendLetter(1) -> FULL", "length() -> 256");
    }

    // Promise 6: letter.

    @Says({"Returns the letter, or NONE if there is no such position.", "numbered from 0 to its length minus 1"})
    static void promise06_positionsZeroToLast(Ask ask) {
        ask.busy().keeps("letter(0) -> 0", "letter(1) -> 2", "letter(4) -> 2", "letter(5) -> NONE", "letter(-1) -> NONE",
            "letter(MIN) -> NONE", "letter(MAX) -> NONE");
    }

    @Says("NONE if there is no such position")
    static void promise06_emptyAndFull(Ask ask) {
        ask.scene().keeps("letter(0) -> NONE", "letter(-1) -> NONE");
        ask.scene("letters(1)").keeps("letter(0) -> 1", "letter(1) -> NONE");
        ask.scene("configure(4, 4)", "construct(1, 0)")
            .keeps("letter(0) -> 0", "letter(255) -> 3", "letter(256) -> NONE", "letter(257) -> NONE");
        ask.scene("letters(11)", "configure(2, 3)").keeps("letter(0) -> NONE");
        ask.scene("letters(11)", "undo()").keeps("letter(0) -> 1", "letter(1) -> NONE");
    }

    // Promise 7: construct.

    @Says({"the kind, 0 to 3", "BAD_ARGUMENT if the kind is out of range"})
    static void promise07_kindZeroToThree(Ask ask) {
        ask.busy().keeps("construct(-1, 0) -> BAD_ARGUMENT", "construct(4, 0) -> BAD_ARGUMENT", "construct(MIN, 0) -> BAD_ARGUMENT",
            "construct(MAX, 0) -> BAD_ARGUMENT", "construct(4, -1) -> BAD_ARGUMENT", "construct(-1, MAX) -> BAD_ARGUMENT");
        ask.busy().does("construct(0, 0) -> 9", "sequence -> 221201100");
        ask.busy().does("construct(1, 0) -> 9", "sequence -> 001021122");
        ask.busy().does("construct(2, 0) -> 9", "sequence -> 112210200");
        ask.busy().does("construct(3, 0) -> 9", "sequence -> 001122102");
    }

    @Says({"the parameter p, 0 to k^(n-1) - 1 for kind 3", "or the parameter is out of range for kind 3"})
    static void promise07_parameterOfKindThree(Ask ask) {
        ask.busy().keeps("construct(3, -1) -> BAD_ARGUMENT", "construct(3, 3) -> BAD_ARGUMENT", "construct(3, MIN) -> BAD_ARGUMENT",
            "construct(3, MAX) -> BAD_ARGUMENT");
        ask.busy().does("construct(3, 2) -> 9", "sequence -> 001102122", "construct(3, 1) -> 9", "sequence -> 001122021");
        int[][] shapes = {{2, 1, 1}, {2, 2, 2}, {2, 6, 32}, {3, 1, 1}, {3, 5, 81}, {4, 1, 1}, {4, 2, 4}, {4, 4, 64}};
        for (int[] shape : shapes) {
            Scene scene = ask.scene("configure(" + shape[0] + ", " + shape[1] + ")", "letters(10)");
            scene.keeps("construct(3, " + shape[2] + ") -> BAD_ARGUMENT", "construct(3, -1) -> BAD_ARGUMENT");
            int blocks = shape[0] * shape[2];
            scene.does("construct(3, " + (shape[2] - 1) + ") -> " + blocks, "isDeBruijn() -> 1",
                "construct(3, 0) -> " + blocks, "isDeBruijn() -> 1");
        }
    }

    @Says({"whose codes to the base k are taken in the order p, p + 1, .. modulo k^(n-1)"})
    static void promise07_wordsGoRound(Ask ask) {
        ask.scene().does("construct(3, 0) -> 8", "sequence -> 00011101", "construct(3, 1) -> 8", "sequence -> 00011101",
            "construct(3, 2) -> 8", "sequence -> 00010111", "construct(3, 3) -> 8", "sequence -> 00011101");
    }

    @Says({"any number for the other kinds", "a parameter p, which only kind 3 uses"})
    static void promise07_anyParameterForOtherKinds(Ask ask) {
        String[] made = {"221201100", "001021122", "112210200"};
        for (int kind = 0; kind < made.length; kind++) {
            for (String parameter : new String[] {"MIN", "-1", "2", "3", "9", "MAX"}) {
                ask.busy().does("construct(" + kind + ", " + parameter + ") -> 9", "sequence -> " + made[kind]);
            }
        }
    }

    @Says({"For n = 1 the only word u is the empty one.", "every word of one letter is a Lyndon word", "A word begins with n - 1 letters 0."})
    static void promise07_orderOne(Ask ask) {
        ask.scene("configure(2, 1)").does("construct(0, 0) -> 2", "sequence -> 10", "construct(1, 0) -> 2", "sequence -> 01",
            "construct(2, 0) -> 2", "sequence -> 10", "construct(3, 0) -> 2", "sequence -> 01");
        ask.scene("configure(4, 1)").does("construct(0, 0) -> 4", "sequence -> 3210", "construct(1, 0) -> 4", "sequence -> 0123",
            "construct(2, 0) -> 4", "sequence -> 1230", "construct(3, 0) -> 4", "sequence -> 0123");
    }

    @Says({"Replaces the sequence by a construction.", "Returns the length of the sequence, which is k^n"})
    static void promise07_whateverStoodBefore(Ask ask) {
        ask.scene("createTable(0, 0, 256)", "importTable(0, 0)").does("construct(0, 0) -> 8", "sequence -> 11101000", "undo() -> 256");
        ask.scene().does("construct(0, 0) -> 8", "undo() -> 0");
        ask.scene("configure(4, 4)").does("construct(0, 0) -> 256", "isDeBruijn() -> 1", "construct(2, 0) -> 256", "isDeBruijn() -> 1");
    }

    @Says("Replaces the sequence by a construction.")
    static void promise07_againOnTheSameObject(Ask ask) {
        ask.busy().does("construct(0, 0) -> 9", "construct(0, 0) -> 9", "sequence -> 221201100", "construct(3, 2) -> 9", "construct(3, 2) -> 9",
            "sequence -> 001102122", "construct(3, 1) -> 9", "sequence -> 001122021", "construct(1, 0) -> 9", "sequence -> 001021122");
        ask.scene("configure(4, 4)", "construct(0, 0)", "construct(3, 63)", "configure(3, 2)").does("construct(0, 0) -> 9", "sequence -> 221201100",
            "construct(3, 0) -> 9", "sequence -> 001122102");
    }

    // Promise 8: appendCommand.

    @Says("the character code, 33 to 126")
    static void promise08_characters33To126(Ask ask) {
        ask.busy().keeps("appendCommand(32) -> BAD_ARGUMENT", "appendCommand(127) -> BAD_ARGUMENT", "appendCommand(0) -> BAD_ARGUMENT",
            "appendCommand(-1) -> BAD_ARGUMENT", "appendCommand(MIN) -> BAD_ARGUMENT", "appendCommand(MAX) -> BAD_ARGUMENT",
            "appendCommand(65585) -> BAD_ARGUMENT", "appendCommand(305) -> BAD_ARGUMENT");
        ask.busy().does("appendCommand(33) -> 8", "appendCommand(126) -> 9");
    }

    @Says("FULL if the command has 20 characters")
    static void promise08_twentyCharacters(Ask ask) {
        ask.busyWithCommand("joined:567890123456").does("appendCommand('7') -> 20").keeps("appendCommand('8') -> FULL",
            "appendCommand(33) -> FULL", "appendCommand(126) -> FULL").does("appendCommand('8') -> FULL", "runCommand() -> BAD_ARGUMENT");
        ask.scene("signs(gggggggggggggggggggg)").does("appendCommand('g') -> FULL", "runCommand() -> UNKNOWN_NAME",
            "appendCommand('g') -> 1");
    }

    @Says("If several errors apply, the one that is listed first is returned.")
    static void promise08_badCharacterIntoTheFullCommand(Ask ask) {
        ask.scene("signs(gggggggggggggggggggg)").keeps("appendCommand(32) -> BAD_ARGUMENT", "appendCommand(127) -> BAD_ARGUMENT",
            "appendCommand(MIN) -> BAD_ARGUMENT", "appendCommand(MAX) -> BAD_ARGUMENT");
    }

    // Promise 9: runCommand.

    @Says({"UNKNOWN_NAME if the name is not one of the four names", "The command is empty afterwards in every case, even after an error."})
    static void promise09_otherNames(Ask ask) {
        String[] commands = {"", "g", "greed", "greedyy", "reedy", "lyndo", "lyndonn", "necklac", "necklaces", "joine", "joinedd",
            "greedx", "hreedy", "0", "greedy1", "greedygreedygreedygr"};
        for (String command : commands) {
            ask.busyWithCommand(command).does("runCommand() -> UNKNOWN_NAME").same(ask.busyWithCommand(""));
        }
    }

    @Says("The names are written in small letters.")
    static void promise09_capitals(Ask ask) {
        for (String command : new String[] {"Greedy", "GREEDY", "greedY", "Lyndon", "Necklace", "Joined", "joineD"}) {
            ask.busyWithCommand(command).does("runCommand() -> UNKNOWN_NAME").same(ask.busyWithCommand(""));
        }
    }

    @Says("The name is what stands before the first colon, or the whole command if there is no colon.")
    static void promise09_theFirstColon(Ask ask) {
        for (String command : new String[] {":", "::", ":greedy", ":1", "gree:dy", "greedy;1", "greedy1:1"}) {
            ask.busyWithCommand(command).does("runCommand() -> UNKNOWN_NAME").same(ask.busyWithCommand(""));
        }
        for (String command : new String[] {"greedy::", "greedy:1:", "greedy::1", "greedy:1:2", "greedy:greedy"}) {
            ask.busyWithCommand(command).does("runCommand() -> BAD_ARGUMENT").same(ask.busyWithCommand(""));
        }
    }

    @Says("UNKNOWN_NAME if the name is not one of the four names (checked first)")
    static void promise09_wrongNameAndWrongNumber(Ask ask) {
        for (String command : new String[] {"nope:", "nope:x", "nope:1234", "join:3", "Joined:999"}) {
            ask.busyWithCommand(command).does("runCommand() -> UNKNOWN_NAME").same(ask.busyWithCommand(""));
        }
    }

    @Says({"BAD_ARGUMENT if what follows the colon is not a number of 1 to 3 digits", "which is written with 1 to 3 digits"})
    static void promise09_oneToThreeDigits(Ask ask) {
        for (String name : new String[] {"greedy", "lyndon", "necklace", "joined"}) {
            for (String number : new String[] {"", "0000", "0001", "1234"}) {
                ask.busyWithCommand(name + ":" + number).does("runCommand() -> BAD_ARGUMENT").same(ask.busyWithCommand(""));
            }
            for (String number : new String[] {"0", "1", "00", "02", "000", "002"}) {
                ask.busyWithCommand(name + ":" + number).does("runCommand() -> 9", "appendCommand('x') -> 1");
            }
        }
        ask.busyWithCommand("joined:0000000000000").does("runCommand() -> BAD_ARGUMENT").same(ask.busyWithCommand(""));
    }

    @Says("BAD_ARGUMENT if what follows the colon is not a number of 1 to 3 digits")
    static void promise09_signsBesideTheDigits(Ask ask) {
        for (String number : new String[] {"/", ":", "1/", "/1", "1:", "+1", "-1", "-0", "1a", "a", "1.", "0x1", "!", "~"}) {
            ask.busyWithCommand("lyndon:" + number).does("runCommand() -> BAD_ARGUMENT").same(ask.busyWithCommand(""));
        }
        ask.busyWithCommand("lyndon:909").does("runCommand() -> 9");
    }

    @Says({"or the parameter is out of range for kind 3", "Without a parameter it is 0.",
        "A number behind the colon of a command may begin with zeros."})
    static void promise09_parameterOfJoined(Ask ask) {
        for (String number : new String[] {"3", "03", "003", "4", "999"}) {
            ask.busyWithCommand("joined:" + number).does("runCommand() -> BAD_ARGUMENT").same(ask.busyWithCommand(""));
        }
        ask.busyWithCommand("joined").does("runCommand() -> 9", "sequence -> 001122102");
        ask.busyWithCommand("joined:000").does("runCommand() -> 9", "sequence -> 001122102");
        ask.busyWithCommand("joined:2").does("runCommand() -> 9", "sequence -> 001102122");
        ask.busyWithCommand("joined:002").does("runCommand() -> 9", "sequence -> 001102122");
        ask.scene("configure(4, 4)", "signs(joined:63)").does("runCommand() -> 256", "isDeBruijn() -> 1");
        ask.scene("configure(4, 4)", "signs(joined:64)").does("runCommand() -> BAD_ARGUMENT", "length() -> 0");
        ask.scene("configure(4, 1)", "signs(joined:0)").does("runCommand() -> 4");
        ask.scene("configure(4, 1)", "signs(joined:1)").does("runCommand() -> BAD_ARGUMENT", "length() -> 0");
    }

    @Says("a parameter p, which only kind 3 uses")
    static void promise09_anyParameterForOtherKinds(Ask ask) {
        ask.busyWithCommand("greedy:999").does("runCommand() -> 9", "sequence -> 221201100");
        ask.busyWithCommand("lyndon:999").does("runCommand() -> 9", "sequence -> 001021122");
        ask.busyWithCommand("necklace:999").does("runCommand() -> 9", "sequence -> 112210200");
    }

    @Says("The command is empty afterwards in every case, even after an error.")
    static void promise09_theCommandIsEmptyAfterwards(Ask ask) {
        ask.scene("signs(greedy)").does("runCommand() -> 8", "runCommand() -> UNKNOWN_NAME", "undoCount() -> 1", "appendCommand('g') -> 1");
        ask.scene("signs(greedy:)").does("runCommand() -> BAD_ARGUMENT", "appendCommand('g') -> 1");
        ask.scene("signs(greed)").does("runCommand() -> UNKNOWN_NAME", "appendCommand('y') -> 1", "runCommand() -> UNKNOWN_NAME");
    }

    // Promise 10: setLetter.

    @Says("NONE if there is no such position (checked first)")
    static void promise10_positions(Ask ask) {
        ask.busy().keeps("setLetter(-1, 0) -> NONE", "setLetter(5, 0) -> NONE", "setLetter(MIN, 0) -> NONE", "setLetter(MAX, 0) -> NONE",
            "setLetter(5, 3) -> NONE", "setLetter(-1, -1) -> NONE", "setLetter(MAX, MAX) -> NONE");
        ask.busy().does("setLetter(0, 1) -> 0", "sequence -> 12112", "setLetter(4, 0) -> 2", "sequence -> 12110");
    }

    @Says("the letter, 0 to k - 1")
    static void promise10_letters(Ask ask) {
        ask.busy().keeps("setLetter(0, -1) -> BAD_ARGUMENT", "setLetter(0, 3) -> BAD_ARGUMENT", "setLetter(4, MIN) -> BAD_ARGUMENT",
            "setLetter(4, MAX) -> BAD_ARGUMENT");
        ask.busy().does("setLetter(1, 0) -> 2", "setLetter(1, 2) -> 0", "sequence -> 02112");
        ask.scene("letters(0)").keeps("setLetter(0, 2) -> BAD_ARGUMENT").does("setLetter(0, 1) -> 0", "sequence -> 1");
        ask.scene("configure(4, 1)", "letters(0)").keeps("setLetter(0, 4) -> BAD_ARGUMENT").does("setLetter(0, 3) -> 0", "sequence -> 3");
    }

    @Says("NONE if there is no such position (checked first)")
    static void promise10_emptyAndFull(Ask ask) {
        ask.scene().keeps("setLetter(0, 0) -> NONE", "setLetter(0, 2) -> NONE");
        ask.scene("configure(4, 4)", "construct(1, 0)").keeps("setLetter(256, 0) -> NONE")
            .does("setLetter(255, 0) -> 3", "letter(255) -> 0", "length() -> 256");
    }

    @Says("is one edit, even if the sequence stays the same")
    static void promise10_theSameLetterIsAnEdit(Ask ask) {
        ask.busy().does("setLetter(1, 2) -> 2", "sequence -> 02112", "undoCount() -> 6", "undo() -> 5", "sequence -> 02112", "undoCount() -> 5");
    }

    @Says("undo restores the sequence from before the latest edit that is not undone")
    static void promise10_afterUndoAndRestore(Ask ask) {
        ask.busy().does("undo() -> 4", "setLetter(0, 1) -> 0", "sequence -> 1211", "setLetter(4, 1) -> NONE");
        ask.busy().does("restore() -> 3", "setLetter(0, 1) -> 0", "sequence -> 111", "setLetter(3, 1) -> NONE");
    }

    // Promise 11: appendLetter.

    @Says("the letter, 0 to k - 1")
    static void promise11_letters(Ask ask) {
        ask.busy().keeps("appendLetter(-1) -> BAD_ARGUMENT", "appendLetter(3) -> BAD_ARGUMENT", "appendLetter(MIN) -> BAD_ARGUMENT",
            "appendLetter(MAX) -> BAD_ARGUMENT");
        ask.busy().does("appendLetter(2) -> 6", "sequence -> 021122", "appendLetter(0) -> 7", "sequence -> 0211220");
        ask.scene().keeps("appendLetter(2) -> BAD_ARGUMENT").does("appendLetter(1) -> 1", "sequence -> 1");
        ask.scene("configure(4, 1)").keeps("appendLetter(4) -> BAD_ARGUMENT").does("appendLetter(3) -> 1", "sequence -> 3");
    }

    @Says("FULL if the sequence has 256 letters")
    static void promise11_the256thLetter(Ask ask) {
        ask.scene("createTable(0, 0, 255)", "importTable(0, 0)").does("appendLetter(1) -> 256", "letter(255) -> 1", "letter(0) -> 0")
            .keeps("appendLetter(0) -> FULL", "appendLetter(1) -> FULL").does("undo() -> 255", "appendLetter(0) -> 256");
    }

    @Says("If several errors apply, the one that is listed first is returned.")
    static void promise11_badLetterIntoTheFullSequence(Ask ask) {
        ask.scene("configure(4, 4)", "construct(0, 0)").keeps("appendLetter(4) -> BAD_ARGUMENT", "appendLetter(-1) -> BAD_ARGUMENT",
            "appendLetter(3) -> FULL");
    }

    @Says("undo restores the sequence from before the latest edit that is not undone")
    static void promise11_afterUndoAndRestore(Ask ask) {
        ask.busy().does("undo() -> 4", "appendLetter(0) -> 5", "sequence -> 02110");
        ask.busy().does("restore() -> 3", "appendLetter(0) -> 4", "sequence -> 0110");
    }

    // Promise 12: rotate.

    @Says({"the shift, any int", "modulo the length, where the result of modulo is not negative"})
    static void promise12_anyShift(Ask ask) {
        String[] start = {"configure(4, 2)", "letters(0123012)"};
        ask.scene(start).does("rotate(0) -> 0", "sequence -> 0123012");
        ask.scene(start).does("rotate(1) -> 1", "sequence -> 1230120");
        ask.scene(start).does("rotate(-1) -> 2", "sequence -> 2012301");
        ask.scene(start).does("rotate(6) -> 2", "sequence -> 2012301");
        ask.scene(start).does("rotate(7) -> 0", "sequence -> 0123012");
        ask.scene(start).does("rotate(8) -> 1", "sequence -> 1230120");
        ask.scene(start).does("rotate(-6) -> 1", "sequence -> 1230120");
        ask.scene(start).does("rotate(-7) -> 0", "sequence -> 0123012");
        ask.scene(start).does("rotate(-8) -> 2", "sequence -> 2012301");
        // 2^31 is 2 modulo 7.
        ask.scene(start).does("rotate(MAX) -> 1", "sequence -> 1230120");
        ask.scene(start).does("rotate(MIN) -> 1", "sequence -> 1201230");
    }

    @Says("Remainders are those of the true numbers.")
    static void promise12_extremesOnOneAnd256Letters(Ask ask) {
        ask.scene("letters(1)").does("rotate(MIN) -> 1", "rotate(MAX) -> 1", "rotate(-1) -> 1", "sequence -> 1");
        String[] full = {"createTable(0, 0, 255)", "importTable(0, 0)", "letters(1)"};
        ask.scene(full).does("rotate(MAX) -> 1", "letter(1) -> 0", "letter(255) -> 0", "length() -> 256");
        ask.scene(full).does("rotate(MIN) -> 0", "letter(255) -> 1", "rotate(256) -> 0", "letter(255) -> 1", "rotate(255) -> 1");
    }

    @Says("Returns the letter at position 0 afterwards, or EMPTY.")
    static void promise12_empty(Ask ask) {
        ask.scene().keeps("rotate(0) -> EMPTY", "rotate(1) -> EMPTY", "rotate(MIN) -> EMPTY", "rotate(MAX) -> EMPTY");
        ask.busy("configure(3, 2)").keeps("rotate(1) -> EMPTY");
    }

    @Says("is one edit, even if the sequence stays the same")
    static void promise12_noShiftIsAnEdit(Ask ask) {
        ask.busy().does("rotate(0) -> 0", "undoCount() -> 6", "undo() -> 5", "sequence -> 02112", "undoCount() -> 5");
    }

    // Promise 13: reverse.

    @Says("Returns 1 if the sequence is the same as before, otherwise 0")
    static void promise13_sameOrNot(Ask ask) {
        ask.scene("letters(0)").does("reverse() -> 1", "sequence -> 0");
        ask.scene("letters(01)").does("reverse() -> 0", "sequence -> 10");
        ask.scene("letters(00)").does("reverse() -> 1", "sequence -> 00");
        ask.scene("letters(010)").does("reverse() -> 1", "sequence -> 010");
        ask.scene("letters(0110)").does("reverse() -> 1", "sequence -> 0110");
        // A rotation of the sequence is not the same sequence.
        ask.scene("letters(0010)").does("reverse() -> 0", "sequence -> 0100");
        ask.busy().does("reverse() -> 0", "sequence -> 21120");
    }

    @Says("Returns 1 if the sequence is the same as before, otherwise 0")
    static void promise13_256Letters(Ask ask) {
        ask.scene("createTable(0, 0, 256)", "importTable(0, 0)").does("reverse() -> 1", "setLetter(255, 1) -> 0", "reverse() -> 0",
            "letter(0) -> 1", "letter(255) -> 0", "length() -> 256");
    }

    @Says("otherwise 0; EMPTY.")
    static void promise13_empty(Ask ask) {
        ask.scene().keeps("reverse() -> EMPTY");
        ask.busy("configure(3, 2)").keeps("reverse() -> EMPTY");
    }

    @Says("is one edit, even if the sequence stays the same")
    static void promise13_theSameIsAnEdit(Ask ask) {
        ask.scene("letters(010)").does("reverse() -> 1", "undoCount() -> 4", "undo() -> 3", "sequence -> 010", "undoCount() -> 3");
    }

    // Promise 14: complement.

    @Says("Replaces every letter x by k - 1 - x.")
    static void promise14_leastAndGreatestLetter(Ask ask) {
        ask.scene("letters(01)").does("complement() -> 1", "sequence -> 10");
        ask.busy().does("complement() -> 2", "sequence -> 20110");
        ask.scene("configure(4, 1)", "letters(3210)").does("complement() -> 0", "sequence -> 0123");
        ask.scene("createTable(0, 0, 256)", "importTable(0, 0)").does("complement() -> 1", "letter(255) -> 1", "length() -> 256");
    }

    @Says("Returns the letter at position 0 afterwards, or EMPTY.")
    static void promise14_empty(Ask ask) {
        ask.scene().keeps("complement() -> EMPTY");
        ask.busy("configure(3, 2)").keeps("complement() -> EMPTY");
    }

    @Says("is one edit, even if the sequence stays the same")
    static void promise14_theSameIsAnEdit(Ask ask) {
        ask.scene("configure(3, 2)", "letters(1)").does("complement() -> 1", "sequence -> 1", "undoCount() -> 2", "undo() -> 1", "undoCount() -> 1");
    }

    // Promise 15: cut.

    @Says("NONE if there is no such position (checked first)")
    static void promise15_positions(Ask ask) {
        ask.busy().keeps("cut(-1, 1) -> NONE", "cut(5, 1) -> NONE", "cut(MIN, 1) -> NONE", "cut(MAX, 1) -> NONE", "cut(5, 0) -> NONE",
            "cut(-1, 5) -> NONE", "cut(MAX, MAX) -> NONE", "cut(MIN, MIN) -> NONE");
        ask.scene("configure(2, 1)", "letters(011)").does("cut(0, 1) -> 2", "sequence -> 11");
        ask.scene("configure(2, 1)", "letters(011)").does("cut(2, 1) -> 2", "sequence -> 01");
    }

    @Says({"the number of letters to be cut out, 1 to length - 1", "BAD_ARGUMENT if count is out of range (checked second)"})
    static void promise15_counts(Ask ask) {
        String[] start = {"configure(2, 3)", "letters(0000)"};
        ask.scene(start).keeps("cut(0, 0) -> BAD_ARGUMENT", "cut(0, 4) -> BAD_ARGUMENT", "cut(0, -1) -> BAD_ARGUMENT",
            "cut(0, MIN) -> BAD_ARGUMENT", "cut(0, MAX) -> BAD_ARGUMENT", "cut(3, 4) -> BAD_ARGUMENT", "cut(3, MAX) -> BAD_ARGUMENT");
        ask.scene(start).does("cut(0, 1) -> 3", "sequence -> 000");
        ask.scene(start).does("cut(0, 3) -> 1", "sequence -> 0");
        ask.scene(start).does("cut(3, 3) -> 1", "sequence -> 0");
    }

    @Says("BAD_ARGUMENT if count is out of range (checked second); MISMATCH if it is not possible.")
    static void promise15_badCountWhereNoCutIsPossible(Ask ask) {
        ask.busy().keeps("cut(0, 1) -> MISMATCH", "cut(0, 0) -> BAD_ARGUMENT", "cut(0, 5) -> BAD_ARGUMENT", "cut(4, 3) -> MISMATCH");
    }

    @Says({"n - 1 letters from this position on are equal to the n - 1 letters that begin after the letters to be cut out",
        "from a position on, modulo the length"})
    static void promise15_roundTheEnd(Ask ask) {
        // 10 stands at positions 5 and 2; the letters of positions 5, 0 and 1 go.
        ask.scene("letters(001001)").does("cut(5, 3) -> 3", "sequence -> 100");
        ask.scene("letters(001001)").does("cut(0, 3) -> 3", "sequence -> 001");
        ask.scene("letters(001001)").does("cut(3, 3) -> 3", "sequence -> 001");
        // Order 2: the letters 1 at positions 2 and 1, three letters apart round the end.
        ask.scene("configure(2, 2)", "letters(0110)").does("cut(2, 3) -> 1", "sequence -> 1");
        ask.scene("configure(2, 2)", "letters(0110)").does("cut(3, 1) -> 3", "sequence -> 011");
        // Equal but for the last of the n - 1 letters, which stands round the end.
        ask.scene("letters(01100)").keeps("cut(4, 1) -> MISMATCH", "cut(0, 4) -> MISMATCH").does("cut(4, 4) -> 1", "sequence -> 0");
    }

    @Says("What is compared to cut letters out, the further letters of the word that continues the sequence, and a pattern may go round")
    static void promise15_shorterThanTheOrder(Ask ask) {
        ask.scene("configure(2, 6)", "letters(01)").keeps("cut(0, 1) -> MISMATCH", "cut(1, 1) -> MISMATCH");
        ask.scene("configure(2, 6)", "letters(11)").does("cut(1, 1) -> 1", "sequence -> 1");
        ask.scene("configure(2, 6)", "letters(0101)").keeps("cut(0, 1) -> MISMATCH", "cut(0, 3) -> MISMATCH").does("cut(1, 2) -> 2", "sequence -> 10");
        ask.scene("configure(2, 6)", "letters(001)").keeps("cut(0, 1) -> MISMATCH", "cut(0, 2) -> MISMATCH", "cut(2, 1) -> MISMATCH");
    }

    @Says("n - 1 letters from this position on are equal")
    static void promise15_orderOneComparesNothing(Ask ask) {
        ask.scene("configure(3, 1)", "letters(012)").does("cut(2, 2) -> 1", "sequence -> 1");
        ask.scene("configure(3, 1)", "letters(012)").does("cut(0, 1) -> 2", "sequence -> 12", "cut(1, 1) -> 1", "sequence -> 1");
    }

    @Says("the number of letters to be cut out, 1 to length - 1")
    static void promise15_oneLetterAndNone(Ask ask) {
        ask.scene("letters(1)").keeps("cut(0, 0) -> BAD_ARGUMENT", "cut(0, 1) -> BAD_ARGUMENT", "cut(1, 0) -> NONE");
        ask.scene().keeps("cut(0, 0) -> NONE", "cut(0, 1) -> NONE", "cut(-1, 1) -> NONE");
    }

    @Says("the number of letters to be cut out, 1 to length - 1")
    static void promise15_255Of256Letters(Ask ask) {
        String[] full = {"createTable(0, 0, 256)", "importTable(0, 0)"};
        ask.scene(full).does("cut(255, 255) -> 1", "sequence -> 0", "undo() -> 256");
        ask.scene(full).keeps("cut(255, 256) -> BAD_ARGUMENT", "cut(256, 1) -> NONE");
    }

    // Promise 16: exchange.

    @Says("NONE if one of the positions does not exist (checked first)")
    static void promise16_positions(Ask ask) {
        String[] start = {"configure(2, 2)", "letters(011001)"};
        ask.scene(start).keeps("exchange(-1, 1, 3, 5) -> NONE", "exchange(6, 1, 3, 5) -> NONE", "exchange(MIN, 1, 3, 5) -> NONE",
            "exchange(MAX, 1, 3, 5) -> NONE", "exchange(0, -1, 3, 5) -> NONE", "exchange(0, 6, 3, 5) -> NONE",
            "exchange(0, MIN, 3, 5) -> NONE", "exchange(0, MAX, 3, 5) -> NONE", "exchange(0, 1, -1, 5) -> NONE",
            "exchange(0, 1, 6, 5) -> NONE", "exchange(0, 1, MIN, 5) -> NONE", "exchange(0, 1, MAX, 5) -> NONE",
            "exchange(0, 1, 3, -1) -> NONE", "exchange(0, 1, 3, 6) -> NONE", "exchange(0, 1, 3, MIN) -> NONE",
            "exchange(0, 1, 3, MAX) -> NONE", "exchange(5, 5, 5, 6) -> NONE", "exchange(MAX, MAX, MAX, MAX) -> NONE",
            "exchange(MIN, MIN, MIN, MIN) -> NONE");
        ask.scene(start).does("exchange(0, 1, 3, 5) -> 1", "sequence -> 001101");
    }

    @Says("BAD_ARGUMENT if they are not in strictly ascending order (checked second)")
    static void promise16_strictlyAscending(Ask ask) {
        String[] start = {"configure(2, 1)", "letters(011001)"};
        ask.scene(start).keeps("exchange(1, 1, 3, 5) -> BAD_ARGUMENT", "exchange(0, 3, 3, 5) -> BAD_ARGUMENT",
            "exchange(0, 1, 5, 5) -> BAD_ARGUMENT", "exchange(2, 1, 3, 5) -> BAD_ARGUMENT", "exchange(0, 4, 3, 5) -> BAD_ARGUMENT",
            "exchange(0, 1, 5, 4) -> BAD_ARGUMENT", "exchange(3, 5, 0, 1) -> BAD_ARGUMENT", "exchange(0, 0, 0, 0) -> BAD_ARGUMENT",
            "exchange(5, 3, 1, 0) -> BAD_ARGUMENT");
        ask.scene(start).does("exchange(0, 1, 2, 3) -> 1", "sequence -> 110001");
        ask.scene(start).does("exchange(2, 3, 4, 5) -> 1", "sequence -> 010011");
    }

    @Says("not in strictly ascending order (checked second); MISMATCH if it is not possible.")
    static void promise16_badOrderWhereNothingMatches(Ask ask) {
        ask.busy().keeps("exchange(0, 0, 1, 2) -> BAD_ARGUMENT", "exchange(0, 1, 1, 2) -> BAD_ARGUMENT", "exchange(0, 1, 2, 3) -> MISMATCH");
    }

    @Says({"n - 1 letters from the first position on are equal to the n - 1 letters from the third position on",
        "and those from the second position on are equal to those from the fourth position on"})
    static void promise16_eitherPairMayMismatch(Ask ask) {
        String[] start = {"configure(2, 2)", "letters(011001)"};
        // First and third match, second and fourth do not; then the other way round; then neither.
        ask.scene(start).keeps("exchange(0, 1, 3, 4) -> MISMATCH", "exchange(0, 1, 2, 5) -> MISMATCH", "exchange(0, 1, 2, 3) -> MISMATCH");
        ask.busy().keeps("exchange(0, 1, 2, 4) -> MISMATCH", "exchange(1, 2, 4, 3) -> BAD_ARGUMENT");
    }

    @Says("all modulo the length")
    static void promise16_comparedRoundTheEnd(Ask ask) {
        ask.scene("letters(01101)").keeps("exchange(0, 1, 3, 4) -> MISMATCH");
        ask.scene("letters(01001)").does("exchange(0, 1, 3, 4) -> 0", "sequence -> 01001");
    }

    @Says({"Returns 1 if the sequence is different afterwards, otherwise 0", "is one edit, even if the sequence stays the same"})
    static void promise16_theSameIsAnEdit(Ask ask) {
        ask.scene("configure(2, 2)", "letters(0101)").does("exchange(0, 1, 2, 3) -> 0", "sequence -> 0101", "undoCount() -> 5",
            "undo() -> 4", "sequence -> 0101", "undoCount() -> 4");
    }

    @Says("exchange compares the sequences from position 0 on.")
    static void promise16_aRotationIsDifferent(Ask ask) {
        ask.scene("configure(2, 1)", "letters(0100)").does("exchange(0, 1, 2, 3) -> 0", "sequence -> 0100", "exchange(0, 1, 2, 3) -> 0");
        ask.scene("configure(2, 1)", "letters(0010)").does("exchange(1, 2, 2, 3) -> BAD_ARGUMENT", "exchange(0, 1, 2, 3) -> 1", "sequence -> 1000");
    }

    @Says("the letters from the first position up to the one before the second position")
    static void promise16_partsOfDifferentLength(Ask ask) {
        ask.scene("configure(4, 1)", "letters(0123012)").does("exchange(0, 4, 5, 6) -> 1", "sequence -> 1001232");
        ask.scene("configure(4, 1)", "letters(0123012)").does("exchange(0, 1, 2, 6) -> 1", "sequence -> 2301102");
    }

    @Says("n - 1 letters from the first position on are equal")
    static void promise16_shortSequences(Ask ask) {
        ask.scene("configure(2, 1)", "letters(0110)").does("exchange(0, 1, 2, 3) -> 1", "sequence -> 1100");
        ask.scene("configure(2, 1)", "letters(011)").keeps("exchange(0, 1, 2, 3) -> NONE", "exchange(0, 1, 2, 2) -> BAD_ARGUMENT");
        ask.scene().keeps("exchange(0, 0, 0, 0) -> NONE", "exchange(0, 1, 2, 3) -> NONE");
        ask.scene("configure(2, 6)", "letters(0101)").does("exchange(0, 1, 2, 3) -> 0");
        ask.scene("configure(2, 6)", "letters(0111)").keeps("exchange(0, 1, 2, 3) -> MISMATCH");
    }

    @Says("NONE if one of the positions does not exist (checked first)")
    static void promise16_256Letters(Ask ask) {
        String[] start = {"configure(2, 1)", "createTable(0, 0, 256)", "writeTable(0, 254, 1)", "importTable(0, 0)"};
        ask.scene(start).keeps("exchange(0, 1, 254, 256) -> NONE").does("exchange(0, 1, 254, 255) -> 1", "letter(0) -> 1", "letter(254) -> 0",
            "letter(255) -> 0", "length() -> 256");
    }

    // Promise 17: firstCut.

    @Says({"the number of letters, 1 to length - 1", "BAD_ARGUMENT if count is out of range (checked second)"})
    static void promise17_counts(Ask ask) {
        ask.scene("letters(0000)").keeps("firstCut(0) -> BAD_ARGUMENT", "firstCut(1) -> 0", "firstCut(3) -> 0", "firstCut(4) -> BAD_ARGUMENT",
            "firstCut(-1) -> BAD_ARGUMENT", "firstCut(MIN) -> BAD_ARGUMENT", "firstCut(MAX) -> BAD_ARGUMENT");
        ask.scene("letters(1)").keeps("firstCut(0) -> BAD_ARGUMENT", "firstCut(1) -> BAD_ARGUMENT");
        ask.scene("letters(11)").keeps("firstCut(1) -> 0", "firstCut(2) -> BAD_ARGUMENT");
        ask.scene("createTable(0, 0, 256)", "importTable(0, 0)").keeps("firstCut(255) -> 0", "firstCut(256) -> BAD_ARGUMENT");
    }

    @Says("EMPTY (checked first)")
    static void promise17_empty(Ask ask) {
        ask.scene().keeps("firstCut(1) -> EMPTY", "firstCut(0) -> EMPTY", "firstCut(MIN) -> EMPTY", "firstCut(MAX) -> EMPTY");
    }

    @Says({"Returns the first position at which cut is possible", "NONE if there is no such position."})
    static void promise17_firstLastOrNoPosition(Ask ask) {
        ask.scene("letters(001001)").keeps("firstCut(3) -> 0", "firstCut(1) -> NONE", "firstCut(5) -> NONE", "firstCut(2) -> NONE");
        ask.scene("configure(2, 2)", "letters(010)").keeps("firstCut(1) -> 2", "firstCut(2) -> 0");
        ask.busy().keeps("firstCut(1) -> 2", "firstCut(2) -> 4", "firstCut(3) -> 1", "firstCut(4) -> 3");
        ask.scene("construct(1, 0)").keeps("firstCut(1) -> 0", "firstCut(3) -> NONE", "firstCut(7) -> 1");
        ask.scene("configure(2, 6)", "letters(01)").keeps("firstCut(1) -> NONE");
    }
}
