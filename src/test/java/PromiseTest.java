/** For each promise: ordinary inputs, the edges that the document names, and wrong inputs. */
public final class PromiseTest {
    private static final int BAD = -1;
    private static final int NONE = -2;
    private static final int EMPTY = -3;
    private static final int FULL = -4;
    private static final int MISMATCH = -5;
    private static final int UNKNOWN = -6;
    private static final int NOTHING = -7;
    private static final int CONSTANT = -8;
    private static final int MISSING = -11;
    private static final int WRONG_TYPE = -12;
    private static final int OUT = -13;
    private static final int NEGATIVE = -14;
    private static final int MIN = Integer.MIN_VALUE;
    private static final int MAX = Integer.MAX_VALUE;

    private static final Due due = new Due();

    public static void main(String[] args) {
        newObject();
        configure();
        lettersOfTheSequence();
        constructions();
        commands();
        setAndAppend();
        rotateReverseComplement();
        cuts();
        exchanges();
        blockLookup();
        distances();
        linearForm();
        missingAndRepeated();
        successors();
        necklaces();
        lyndonWords();
        patterns();
        counts();
        runsAndDiscrepancy();
        autocorrelation();
        undoing();
        snapshots();
        oneLetter();
        tables();
        exports();
        imports();
        due.everyPromiseAsked();
        due.end();
    }

    private static void newObject() {
        DeBruijnWorkbench x = new DeBruijnWorkbench();
        due.is(1, "letterCount()", x.letterCount(), 2);
        due.is(1, "order()", x.order(), 3);
        due.is(1, "length()", x.length(), 0);
        due.is(1, "undoCount()", x.undoCount(), 0);
        due.is(1, "clearPattern()", x.clearPattern(), 0);
        due.is(1, "readTable(0, 0)", x.readTable(0, 0), MISSING);
        due.is(1, "readTable(1, 0)", x.readTable(1, 0), MISSING);
        due.is(1, "runCommand()", x.runCommand(), UNKNOWN);
        due.is(1, "restore()", x.restore(), NOTHING);
    }

    private static void configure() {
        int[][] possible = {{2, 1, 2}, {2, 6, 64}, {3, 1, 3}, {3, 5, 243}, {4, 1, 4}, {4, 4, 256}};
        int[][] wrong = {{1, 3}, {5, 1}, {2, 0}, {2, 7}, {3, 6}, {4, 5}, {0, 0}, {-2, 2}, {MAX, 1}, {2, MIN}, {MIN, MAX}};
        for (int[] row : possible) {
            DeBruijnWorkbench x = new DeBruijnWorkbench();
            due.is(2, "configure(" + row[0] + ", " + row[1] + ")", x.configure(row[0], row[1]), row[2]);
            due.is(3, "letterCount()", x.letterCount(), row[0]);
            due.is(4, "order()", x.order(), row[1]);
        }
        DeBruijnWorkbench x = Due.bench(3, 2, "012");
        x.appendPattern(-1);
        for (int[] row : wrong) {
            due.is(2, "configure(" + row[0] + ", " + row[1] + ")", x.configure(row[0], row[1]), BAD);
        }
        due.is(3, "letterCount()", x.letterCount(), 3);
        due.is(4, "order()", x.order(), 2);
        due.sequence(2, x, "012");
        due.is(2, "undoCount()", x.undoCount(), 3);
        due.is(2, "clearPattern()", x.clearPattern(), 1);
        configureKeepsTheRest();
    }

    private static void configureKeepsTheRest() {
        DeBruijnWorkbench x = Due.bench(3, 2, "012");
        x.save();
        x.createTable(0, 0, 2);
        x.writeTable(0, 1, 77);
        x.appendPattern(2);
        x.appendCommand('l');
        due.is(2, "configure(3, 2)", x.configure(3, 2), 9);
        due.is(2, "length()", x.length(), 0);
        due.is(2, "undo()", x.undo(), NOTHING);
        due.is(2, "clearPattern()", x.clearPattern(), 0);
        due.is(2, "readTable(0, 1)", x.readTable(0, 1), 77);
        due.is(2, "the rest of the command", Due.run(x, "yndon"), 9);
        due.is(2, "restore()", x.restore(), 3);
        due.sequence(2, x, "012");
    }

    private static void lettersOfTheSequence() {
        DeBruijnWorkbench x = Due.bench(4, 2, "0312");
        due.is(5, "length()", x.length(), 4);
        due.is(6, "letter(1)", x.letter(1), 3);
        due.is(6, "letter(3)", x.letter(3), 2);
        due.is(6, "letter(4)", x.letter(4), NONE);
        due.is(6, "letter(-1)", x.letter(-1), NONE);
        due.is(6, "letter(MAX)", x.letter(MAX), NONE);
        due.is(6, "letter(MIN)", x.letter(MIN), NONE);
        x.configure(4, 4);
        x.construct(1, 0);
        due.is(5, "length()", x.length(), 256);
        due.is(6, "letter(255)", x.letter(255), 3);
        due.is(6, "letter(256)", x.letter(256), NONE);
    }

    private static void constructions() {
        due.sequence(7, built(2, 3, 0, 0), "11101000");
        due.sequence(7, built(2, 3, 1, MIN), "00010111");
        due.sequence(7, built(2, 3, 2, MAX), "11101000");
        due.sequence(7, built(2, 3, 3, 0), "00011101");
        due.sequence(7, built(2, 3, 3, 2), "00010111");
        due.sequence(7, built(3, 2, 0, -1), "221201100");
        due.sequence(7, built(3, 2, 1, 0), "001021122");
        due.sequence(7, built(3, 2, 2, 0), "112210200");
        due.sequence(7, built(3, 1, 0, 0), "210");
        due.sequence(7, built(3, 1, 1, 0), "012");
        due.sequence(7, built(3, 1, 2, 0), "120");
        due.sequence(7, built(3, 1, 3, 0), "012");
        due.sequence(7, built(2, 4, 1, 0), "0000100110101111");
        DeBruijnWorkbench x = Due.bench(3, 2, "21");
        due.is(7, "construct(-1, 0)", x.construct(-1, 0), BAD);
        due.is(7, "construct(4, 0)", x.construct(4, 0), BAD);
        due.is(7, "construct(MIN, 0)", x.construct(MIN, 0), BAD);
        due.is(7, "construct(MAX, 0)", x.construct(MAX, 0), BAD);
        due.is(7, "construct(3, -1)", x.construct(3, -1), BAD);
        due.is(7, "construct(3, 3)", x.construct(3, 3), BAD);
        due.is(7, "construct(3, MAX)", x.construct(3, MAX), BAD);
        due.sequence(7, x, "21");
        due.is(7, "undoCount()", x.undoCount(), 2);
        due.is(7, "construct(3, 2)", x.construct(3, 2), 9);
        due.is(7, "undo()", x.undo(), 2);
        due.sequence(7, x, "21");
        everyConstructionIsDeBruijn();
    }

    private static DeBruijnWorkbench built(int letters, int order, int kind, int parameter) {
        DeBruijnWorkbench x = new DeBruijnWorkbench();
        int blocks = x.configure(letters, order);
        due.is(7, "construct(" + kind + ", " + parameter + ")", x.construct(kind, parameter), blocks);
        return x;
    }

    private static void everyConstructionIsDeBruijn() {
        for (int letters = 2; letters <= 4; letters++) {
            for (int order = 1; order <= 6; order++) {
                if (Math.pow(letters, order) > 256) {
                    continue;
                }
                int tails = (int) Math.pow(letters, order - 1);
                for (int kind = 0; kind <= 3; kind++) {
                    for (int p = 0; p < (kind == 3 ? tails : 1); p++) {
                        due.is(28, "isDeBruijn()", built(letters, order, kind, p).isDeBruijn(), 1);
                    }
                }
            }
        }
    }

    private static void commands() {
        DeBruijnWorkbench x = new DeBruijnWorkbench();
        due.is(9, "greedy", Due.run(x, "greedy"), 8);
        due.sequence(9, x, "11101000");
        due.is(9, "lyndon:999", Due.run(x, "lyndon:999"), 8);
        due.sequence(9, x, "00010111");
        due.is(9, "necklace:0", Due.run(x, "necklace:0"), 8);
        due.sequence(9, x, "11101000");
        due.is(9, "joined", Due.run(x, "joined"), 8);
        due.sequence(9, x, "00011101");
        due.is(9, "joined:002", Due.run(x, "joined:002"), 8);
        due.sequence(9, x, "00010111");
        due.is(9, "undoCount()", x.undoCount(), 5);
        String[] unknown = {"", ":", ":1", "greed", "greedyy", "Greedy", "lyndon1", "joined;1", "nope:x", "gree:dy", "1"};
        for (String command : unknown) {
            due.is(9, command, Due.run(x, command), UNKNOWN);
        }
        String[] bad = {"greedy:", "greedy:1234", "greedy:x", "lyndon:1a", "lyndon:-1", "necklace:1:2", "necklace::1",
            "joined:4", "joined:004", "joined:999", "joined:", "joined:+1", "greedy:/", "greedy:0000"};
        for (String command : bad) {
            due.is(9, command, Due.run(x, command), BAD);
        }
        due.sequence(9, x, "00010111");
        due.is(9, "undoCount()", x.undoCount(), 5);
        signsOfTheCommand();
    }

    private static void signsOfTheCommand() {
        DeBruijnWorkbench x = new DeBruijnWorkbench();
        for (int character : new int[] {32, 127, 0, -1, 255, MIN, MAX, 65536 + 97}) {
            due.is(8, "appendCommand(" + character + ")", x.appendCommand(character), BAD);
        }
        due.is(8, "appendCommand(33)", x.appendCommand(33), 1);
        due.is(8, "appendCommand(126)", x.appendCommand(126), 2);
        due.is(8, "runCommand()", x.runCommand(), UNKNOWN);
        for (int i = 1; i <= 20; i++) {
            due.is(8, "appendCommand('g')", x.appendCommand('g'), i);
        }
        due.is(8, "appendCommand('g')", x.appendCommand('g'), FULL);
        due.is(8, "appendCommand(32)", x.appendCommand(32), BAD);
        due.is(9, "runCommand()", x.runCommand(), UNKNOWN);
        due.is(9, "appendCommand('g')", x.appendCommand('g'), 1);
        due.is(9, "reedy", Due.run(x, "reedy"), 8);
        due.is(9, "runCommand()", x.runCommand(), UNKNOWN);
        due.is(9, "greedy:123456789012", Due.run(x, "greedy:123456789012"), BAD);
    }

    private static void setAndAppend() {
        DeBruijnWorkbench x = Due.bench(3, 2, "012");
        due.is(10, "setLetter(1, 2)", x.setLetter(1, 2), 1);
        due.sequence(10, x, "022");
        due.is(10, "setLetter(1, 2)", x.setLetter(1, 2), 2);
        due.is(10, "undoCount()", x.undoCount(), 5);
        due.is(10, "setLetter(3, 3)", x.setLetter(3, 3), NONE);
        due.is(10, "setLetter(-1, 0)", x.setLetter(-1, 0), NONE);
        due.is(10, "setLetter(0, 3)", x.setLetter(0, 3), BAD);
        due.is(10, "setLetter(2, -1)", x.setLetter(2, -1), BAD);
        due.is(10, "undoCount()", x.undoCount(), 5);
        due.sequence(10, x, "022");
        due.is(11, "appendLetter(2)", x.appendLetter(2), 4);
        due.sequence(11, x, "0222");
        due.is(11, "appendLetter(3)", x.appendLetter(3), BAD);
        due.is(11, "appendLetter(-1)", x.appendLetter(-1), BAD);
        x.configure(4, 4);
        x.construct(0, 0);
        due.is(11, "appendLetter(4)", x.appendLetter(4), BAD);
        due.is(11, "appendLetter(0)", x.appendLetter(0), FULL);
        due.is(11, "undoCount()", x.undoCount(), 1);
        due.is(11, "length()", x.length(), 256);
    }

    private static void rotateReverseComplement() {
        DeBruijnWorkbench x = Due.bench(3, 2, "01122");
        due.is(12, "rotate(1)", x.rotate(1), 1);
        due.sequence(12, x, "11220");
        due.is(12, "rotate(-1)", x.rotate(-1), 0);
        due.sequence(12, x, "01122");
        due.is(12, "rotate(MAX)", x.rotate(MAX), 1);
        due.sequence(12, x, "12201");
        due.is(12, "rotate(MIN)", x.rotate(MIN), 2);
        due.sequence(12, x, "20112");
        due.is(12, "rotate(0)", x.rotate(0), 2);
        due.is(13, "reverse()", x.reverse(), 0);
        due.sequence(13, x, "21102");
        due.is(14, "complement()", x.complement(), 0);
        due.sequence(14, x, "01120");
        DeBruijnWorkbench same = Due.bench(2, 3, "0110");
        due.is(13, "reverse()", same.reverse(), 1);
        due.is(13, "undoCount()", same.undoCount(), 5);
        due.is(12, "rotate(4)", same.rotate(4), 0);
        due.is(12, "undoCount()", same.undoCount(), 6);
        DeBruijnWorkbench empty = new DeBruijnWorkbench();
        due.is(12, "rotate(0)", empty.rotate(0), EMPTY);
        due.is(13, "reverse()", empty.reverse(), EMPTY);
        due.is(14, "complement()", empty.complement(), EMPTY);
        due.is(14, "undoCount()", empty.undoCount(), 0);
    }

    private static void cuts() {
        DeBruijnWorkbench x = Due.bench(2, 3, "001001");
        due.is(17, "firstCut(3)", x.firstCut(3), 0);
        due.is(17, "firstCut(1)", x.firstCut(1), NONE);
        due.is(15, "cut(0, 3)", x.cut(0, 3), 3);
        due.sequence(15, x, "001");
        due.is(15, "undo()", x.undo(), 6);
        due.is(15, "cut(5, 3)", x.cut(5, 3), 3);
        due.sequence(15, x, "100");
        due.is(15, "cut(3, 9)", x.cut(3, 9), NONE);
        due.is(15, "cut(-1, 1)", x.cut(-1, 1), NONE);
        due.is(15, "cut(0, 0)", x.cut(0, 0), BAD);
        due.is(15, "cut(0, 3)", x.cut(0, 3), BAD);
        due.is(15, "cut(0, MIN)", x.cut(0, MIN), BAD);
        due.is(15, "cut(0, MAX)", x.cut(0, MAX), BAD);
        due.is(15, "cut(0, 1)", x.cut(0, 1), MISMATCH);
        due.sequence(15, x, "100");
        due.is(17, "firstCut(0)", x.firstCut(0), BAD);
        due.is(17, "firstCut(3)", x.firstCut(3), BAD);
        due.is(17, "firstCut(-1)", x.firstCut(-1), BAD);
        DeBruijnWorkbench round = Due.bench(2, 2, "01011");
        due.is(17, "firstCut(1)", round.firstCut(1), 3);
        due.is(15, "cut(4, 2)", round.cut(4, 2), 3);
        due.sequence(15, round, "101");
        DeBruijnWorkbench small = Due.bench(2, 6, "01");
        due.is(15, "cut(0, 1)", small.cut(0, 1), MISMATCH);
        due.is(17, "firstCut(1)", small.firstCut(1), NONE);
        small.setLetter(0, 1);
        due.is(17, "firstCut(1)", small.firstCut(1), 0);
        due.is(15, "cut(1, 1)", small.cut(1, 1), 1);
        due.is(15, "cut(0, 1)", small.cut(0, 1), BAD);
        DeBruijnWorkbench free = Due.bench(3, 1, "012");
        due.is(15, "cut(2, 2)", free.cut(2, 2), 1);
        due.sequence(15, free, "1");
        DeBruijnWorkbench empty = new DeBruijnWorkbench();
        due.is(15, "cut(0, 0)", empty.cut(0, 0), NONE);
        due.is(17, "firstCut(0)", empty.firstCut(0), EMPTY);
    }

    private static void exchanges() {
        DeBruijnWorkbench x = Due.bench(2, 2, "011001");
        due.is(16, "exchange(0, 1, 3, 5)", x.exchange(0, 1, 3, 5), 1);
        due.sequence(16, x, "001101");
        due.is(16, "undo()", x.undo(), 6);
        due.sequence(16, x, "011001");
        due.is(16, "exchange(0, 1, 3, 4)", x.exchange(0, 1, 3, 4), MISMATCH);
        due.is(16, "exchange(0, 1, 2, 5)", x.exchange(0, 1, 2, 5), MISMATCH);
        due.is(16, "exchange(0, 1, 3, 6)", x.exchange(0, 1, 3, 6), NONE);
        due.is(16, "exchange(6, 1, 3, 5)", x.exchange(6, 1, 3, 5), NONE);
        due.is(16, "exchange(5, -1, 3, 5)", x.exchange(5, -1, 3, 5), NONE);
        due.is(16, "exchange(0, 1, MAX, 0)", x.exchange(0, 1, MAX, 0), NONE);
        due.is(16, "exchange(1, 1, 3, 5)", x.exchange(1, 1, 3, 5), BAD);
        due.is(16, "exchange(0, 3, 3, 5)", x.exchange(0, 3, 3, 5), BAD);
        due.is(16, "exchange(0, 1, 5, 5)", x.exchange(0, 1, 5, 5), BAD);
        due.is(16, "exchange(3, 5, 0, 1)", x.exchange(3, 5, 0, 1), BAD);
        due.sequence(16, x, "011001");
        DeBruijnWorkbench same = Due.bench(2, 2, "0101");
        due.is(16, "exchange(0, 1, 2, 3)", same.exchange(0, 1, 2, 3), 0);
        due.sequence(16, same, "0101");
        due.is(16, "undoCount()", same.undoCount(), 5);
        DeBruijnWorkbench free = Due.bench(4, 1, "0123012");
        due.is(16, "exchange(1, 3, 4, 6)", free.exchange(1, 3, 4, 6), 1);
        due.sequence(16, free, "0013122");
        DeBruijnWorkbench round = Due.bench(2, 3, "10110");
        due.is(16, "exchange(0, 1, 3, 4)", round.exchange(0, 1, 3, 4), 0);
        exchangeKeepsDeBruijn();
    }

    private static void exchangeKeepsDeBruijn() {
        DeBruijnWorkbench x = new DeBruijnWorkbench();
        x.configure(2, 4);
        x.construct(1, 0);
        due.is(16, "exchange(5, 8, 7, 10)", x.exchange(5, 8, 7, 10), BAD);
        int done = 0;
        for (int a = 0; a < 16; a++) {
            for (int b = a + 1; b < 16; b++) {
                for (int c = b + 1; c < 16; c++) {
                    for (int d = c + 1; d < 16; d++) {
                        int answer = x.exchange(a, b, c, d);
                        done += answer == 1 ? 1 : 0;
                        due.that(answer == 1 || answer == MISMATCH, "exchange answered " + answer);
                    }
                }
            }
        }
        due.that(done > 0, "no exchange was possible");
        due.is(16, "isDeBruijn()", x.isDeBruijn(), 1);
    }

    private static void blockLookup() {
        DeBruijnWorkbench x = Due.bench(3, 2, "01201");
        due.is(18, "blockAt(0)", x.blockAt(0), 1);
        due.is(18, "blockAt(2)", x.blockAt(2), 6);
        due.is(18, "blockAt(4)", x.blockAt(4), 3);
        due.is(18, "blockAt(5)", x.blockAt(5), NONE);
        due.is(18, "blockAt(-1)", x.blockAt(-1), NONE);
        due.is(19, "positionOf(1)", x.positionOf(1), 0);
        due.is(19, "positionOf(3)", x.positionOf(3), 4);
        due.is(19, "positionOf(0)", x.positionOf(0), NONE);
        due.is(20, "letterAfter(1)", x.letterAfter(1), 2);
        due.is(20, "letterAfter(3)", x.letterAfter(3), 1);
        due.is(20, "letterAfter(8)", x.letterAfter(8), NONE);
        due.is(21, "occurrences(1)", x.occurrences(1), 2);
        due.is(21, "occurrences(3)", x.occurrences(3), 1);
        due.is(21, "occurrences(8)", x.occurrences(8), 0);
        for (int block : new int[] {-1, 9, MIN, MAX}) {
            due.is(19, "positionOf(" + block + ")", x.positionOf(block), BAD);
            due.is(20, "letterAfter(" + block + ")", x.letterAfter(block), BAD);
            due.is(21, "occurrences(" + block + ")", x.occurrences(block), BAD);
        }
        DeBruijnWorkbench small = Due.bench(2, 5, "01");
        due.is(18, "blockAt(0)", small.blockAt(0), 10);
        due.is(18, "blockAt(1)", small.blockAt(1), 21);
        due.is(19, "positionOf(21)", small.positionOf(21), 1);
        due.is(20, "letterAfter(21)", small.letterAfter(21), 0);
        due.is(20, "letterAfter(10)", small.letterAfter(10), 1);
        DeBruijnWorkbench one = Due.bench(4, 4, "3");
        due.is(18, "blockAt(0)", one.blockAt(0), 255);
        due.is(21, "occurrences(255)", one.occurrences(255), 1);
        due.is(20, "letterAfter(255)", one.letterAfter(255), 3);
        DeBruijnWorkbench empty = new DeBruijnWorkbench();
        due.is(18, "blockAt(0)", empty.blockAt(0), NONE);
        due.is(20, "letterAfter(0)", empty.letterAfter(0), NONE);
        due.is(21, "occurrences(0)", empty.occurrences(0), 0);
    }

    private static void distances() {
        DeBruijnWorkbench x = new DeBruijnWorkbench();
        due.is(22, "distance(0, 0)", x.distance(0, 0), NONE);
        x.construct(1, 0);
        due.is(22, "distance(0, 5)", x.distance(0, 5), 3);
        due.is(22, "distance(5, 0)", x.distance(5, 0), 5);
        due.is(22, "distance(7, 7)", x.distance(7, 7), 0);
        due.is(22, "distance(8, 0)", x.distance(8, 0), BAD);
        due.is(22, "distance(0, -1)", x.distance(0, -1), BAD);
        x.complement();
        x.setLetter(0, 0);
        due.is(22, "distance(7, 0)", x.distance(7, 0), NONE);
        due.is(22, "distance(0, 7)", x.distance(0, 7), NONE);
        due.is(22, "distance(7, 8)", x.distance(7, 8), BAD);
    }

    private static void linearForm() {
        DeBruijnWorkbench x = Due.bench(3, 2, "120");
        due.is(23, "linearLength()", x.linearLength(), 4);
        due.is(24, "linearLetter(2)", x.linearLetter(2), 0);
        due.is(24, "linearLetter(3)", x.linearLetter(3), 1);
        due.is(24, "linearLetter(4)", x.linearLetter(4), NONE);
        due.is(24, "linearLetter(-1)", x.linearLetter(-1), NONE);
        due.is(24, "linearLetter(MAX)", x.linearLetter(MAX), NONE);
        DeBruijnWorkbench small = Due.bench(2, 6, "01");
        due.is(23, "linearLength()", small.linearLength(), 7);
        due.is(24, "linearLetter(5)", small.linearLetter(5), 1);
        due.is(24, "linearLetter(6)", small.linearLetter(6), 0);
        due.is(24, "linearLetter(7)", small.linearLetter(7), NONE);
        DeBruijnWorkbench single = Due.bench(2, 1, "01");
        due.is(23, "linearLength()", single.linearLength(), 2);
        due.is(24, "linearLetter(2)", single.linearLetter(2), NONE);
        DeBruijnWorkbench empty = new DeBruijnWorkbench();
        due.is(23, "linearLength()", empty.linearLength(), 0);
        due.is(24, "linearLetter(0)", empty.linearLetter(0), NONE);
    }

    private static void missingAndRepeated() {
        DeBruijnWorkbench x = Due.bench(3, 2, "01201");
        due.is(25, "differentBlocks()", x.differentBlocks(), 4);
        int[] missing = {0, 2, 4, 7, 8, NONE};
        for (int i = 0; i < missing.length; i++) {
            due.is(26, "missingBlock(" + i + ")", x.missingBlock(i), missing[i]);
        }
        due.is(26, "missingBlock(-1)", x.missingBlock(-1), NONE);
        due.is(26, "missingBlock(MIN)", x.missingBlock(MIN), NONE);
        due.is(27, "firstRepeat()", x.firstRepeat(), 3);
        due.is(28, "isDeBruijn()", x.isDeBruijn(), 0);
        DeBruijnWorkbench y = built(3, 2, 0, 0);
        due.is(25, "differentBlocks()", y.differentBlocks(), 9);
        due.is(26, "missingBlock(0)", y.missingBlock(0), NONE);
        due.is(27, "firstRepeat()", y.firstRepeat(), NONE);
        due.is(28, "isDeBruijn()", y.isDeBruijn(), 1);
        y.setLetter(0, 1);
        due.is(28, "isDeBruijn()", y.isDeBruijn(), 0);
        y.undo();
        y.appendLetter(0);
        due.is(25, "differentBlocks()", y.differentBlocks(), 9);
        due.is(28, "isDeBruijn()", y.isDeBruijn(), 0);
        due.is(27, "firstRepeat()", y.firstRepeat(), 8);
        DeBruijnWorkbench empty = new DeBruijnWorkbench();
        due.is(25, "differentBlocks()", empty.differentBlocks(), 0);
        due.is(27, "firstRepeat()", empty.firstRepeat(), NONE);
        due.is(28, "isDeBruijn()", empty.isDeBruijn(), 0);
        DeBruijnWorkbench one = Due.bench(2, 4, "1");
        due.is(27, "firstRepeat()", one.firstRepeat(), NONE);
        due.is(25, "differentBlocks()", one.differentBlocks(), 1);
    }

    private static void successors() {
        DeBruijnWorkbench x = new DeBruijnWorkbench();
        x.configure(3, 2);
        int[] letters = {1, 1, 0, 2, 2, 2, 0, 0, 1};
        for (int block = 0; block < letters.length; block++) {
            due.is(29, "successorLetter(" + block + ")", x.successorLetter(block), letters[block]);
        }
        for (int block : new int[] {-1, 9, MIN, MAX}) {
            due.is(29, "successorLetter(" + block + ")", x.successorLetter(block), BAD);
            due.is(30, "follow(" + block + ", 1)", x.follow(block, 1), BAD);
        }
        int[] path = {0, 1, 4, 5, 8, 7, 3, 2, 6, 0};
        for (int steps = 0; steps < path.length; steps++) {
            due.is(30, "follow(0, " + steps + ")", x.follow(0, steps), path[steps]);
        }
        due.is(30, "follow(5, 300)", x.follow(5, 300), path[(3 + 300) % 9]);
        due.is(30, "follow(5, 301)", x.follow(5, 301), BAD);
        due.is(30, "follow(5, -1)", x.follow(5, -1), BAD);
        due.is(30, "follow(5, MAX)", x.follow(5, MAX), BAD);
        x.configure(4, 4);
        due.is(30, "follow(255, 256)", x.follow(255, 256), 255);
        x.configure(4, 1);
        due.is(29, "successorLetter(3)", x.successorLetter(3), 0);
        due.is(29, "successorLetter(1)", x.successorLetter(1), 2);
    }

    private static void necklaces() {
        DeBruijnWorkbench x = new DeBruijnWorkbench();
        x.configure(2, 4);
        int[] list = {0, 1, 3, 5, 7, 15, NONE};
        for (int i = 0; i < list.length; i++) {
            due.is(34, "necklace(" + i + ")", x.necklace(i), list[i]);
        }
        due.is(34, "necklace(-1)", x.necklace(-1), NONE);
        due.is(34, "necklace(MAX)", x.necklace(MAX), NONE);
        due.is(31, "isNecklace(5)", x.isNecklace(5), 1);
        due.is(31, "isNecklace(6)", x.isNecklace(6), 0);
        due.is(31, "isNecklace(0)", x.isNecklace(0), 1);
        due.is(31, "isNecklace(15)", x.isNecklace(15), 1);
        due.is(32, "necklaceOf(12)", x.necklaceOf(12), 3);
        due.is(32, "necklaceOf(14)", x.necklaceOf(14), 7);
        due.is(32, "necklaceOf(10)", x.necklaceOf(10), 5);
        due.is(33, "rotationCount(5)", x.rotationCount(5), 2);
        due.is(33, "rotationCount(12)", x.rotationCount(12), 4);
        due.is(33, "rotationCount(15)", x.rotationCount(15), 1);
        for (int block : new int[] {-1, 16, MIN, MAX}) {
            due.is(31, "isNecklace(" + block + ")", x.isNecklace(block), BAD);
            due.is(32, "necklaceOf(" + block + ")", x.necklaceOf(block), BAD);
            due.is(33, "rotationCount(" + block + ")", x.rotationCount(block), BAD);
        }
        x.configure(2, 6);
        due.is(33, "rotationCount(9)", x.rotationCount(9), 3);
        due.is(33, "rotationCount(42)", x.rotationCount(42), 2);
        due.is(34, "necklace(13)", x.necklace(13), 63);
        due.is(34, "necklace(14)", x.necklace(14), NONE);
        x.configure(4, 4);
        due.is(34, "necklace(69)", x.necklace(69), 255);
        due.is(34, "necklace(70)", x.necklace(70), NONE);
        x.configure(3, 1);
        due.is(34, "necklace(2)", x.necklace(2), 2);
        due.is(32, "necklaceOf(2)", x.necklaceOf(2), 2);
        due.is(33, "rotationCount(2)", x.rotationCount(2), 1);
    }

    private static void lyndonWords() {
        int[][] counts = {{2, 1, 2, 3, 6, 9}, {3, 3, 8, 18, 48}, {4, 6, 20, 60}};
        DeBruijnWorkbench x = new DeBruijnWorkbench();
        for (int letters = 2; letters <= 4; letters++) {
            int[] row = counts[letters - 2];
            x.configure(letters, row.length);
            for (int i = 0; i < row.length; i++) {
                due.is(35, "lyndonCount(" + (i + 1) + ")", x.lyndonCount(i + 1), row[i]);
                due.is(36, "lyndonWord(.., " + row[i] + ")", x.lyndonWord(i + 1, row[i]), NONE);
            }
            due.is(35, "lyndonCount(n + 1)", x.lyndonCount(row.length + 1), BAD);
        }
        x.configure(3, 3);
        int[] words = {1, 2, 4, 5, 7, 8, 14, 17};
        for (int i = 0; i < words.length; i++) {
            due.is(36, "lyndonWord(3, " + i + ")", x.lyndonWord(3, i), words[i]);
        }
        int[] pairs = {1, 2, 5};
        for (int i = 0; i < pairs.length; i++) {
            due.is(36, "lyndonWord(2, " + i + ")", x.lyndonWord(2, i), pairs[i]);
            due.is(36, "lyndonWord(1, " + i + ")", x.lyndonWord(1, i), i);
        }
        due.is(36, "lyndonWord(3, -1)", x.lyndonWord(3, -1), NONE);
        for (int length : new int[] {0, 4, -1, MIN, MAX}) {
            due.is(35, "lyndonCount(" + length + ")", x.lyndonCount(length), BAD);
            due.is(36, "lyndonWord(" + length + ", -1)", x.lyndonWord(length, -1), BAD);
        }
    }

    private static void patterns() {
        DeBruijnWorkbench x = Due.bench(3, 2, "01201");
        due.is(39, "patternCount()", x.patternCount(), 5);
        due.is(40, "patternPosition(4)", x.patternPosition(4), 4);
        due.is(40, "patternPosition(5)", x.patternPosition(5), NONE);
        due.is(37, "appendPattern(1)", x.appendPattern(1), 1);
        due.is(39, "patternCount()", x.patternCount(), 2);
        due.is(40, "patternPosition(1)", x.patternPosition(1), 4);
        due.is(37, "appendPattern(-1)", x.appendPattern(-1), 2);
        due.is(37, "appendPattern(1)", x.appendPattern(1), 3);
        due.is(39, "patternCount()", x.patternCount(), 1);
        due.is(40, "patternPosition(0)", x.patternPosition(0), 4);
        due.is(40, "patternPosition(1)", x.patternPosition(1), NONE);
        due.is(40, "patternPosition(-1)", x.patternPosition(-1), NONE);
        due.is(37, "appendPattern(3)", x.appendPattern(3), BAD);
        due.is(37, "appendPattern(-2)", x.appendPattern(-2), BAD);
        due.is(38, "clearPattern()", x.clearPattern(), 3);
        due.is(38, "clearPattern()", x.clearPattern(), 0);
        DeBruijnWorkbench small = Due.bench(2, 2, "01");
        for (int i = 1; i <= 8; i++) {
            due.is(37, "appendPattern(..)", small.appendPattern(i % 2), i);
        }
        due.is(37, "appendPattern(0)", small.appendPattern(0), FULL);
        due.is(37, "appendPattern(2)", small.appendPattern(2), BAD);
        due.is(39, "patternCount()", small.patternCount(), 1);
        due.is(40, "patternPosition(0)", small.patternPosition(0), 1);
        small.undo();
        due.is(39, "patternCount()", small.patternCount(), 0);
        due.is(45, "undo() leaves the pattern", small.clearPattern(), 8);
        DeBruijnWorkbench empty = new DeBruijnWorkbench();
        due.is(39, "patternCount()", empty.patternCount(), 0);
        due.is(40, "patternPosition(0)", empty.patternPosition(0), NONE);
    }

    private static void counts() {
        int[][] rows = {{2, 1, 1}, {2, 2, 1}, {2, 3, 2}, {2, 4, 16}, {2, 5, 2048}, {2, 6, 67108864},
            {3, 1, 2}, {3, 2, 24}, {3, 3, 373248}, {4, 1, 6}, {4, 2, 20736}};
        DeBruijnWorkbench x = new DeBruijnWorkbench();
        for (int[] row : rows) {
            x.configure(row[0], row[1]);
            due.is(41, "countModulo(1000000000)", x.countModulo(1000000000), row[2]);
            due.is(41, "countModulo(7)", x.countModulo(7), row[2] % 7);
            due.is(41, "countModulo(2)", x.countModulo(2), row[2] % 2);
        }
        x.configure(4, 4);
        java.math.BigInteger big = java.math.BigInteger.valueOf(6).pow(64).multiply(java.math.BigInteger.valueOf(4).pow(60));
        for (int modulus : new int[] {999999937, 1000000000, 999999999, 5}) {
            int want = big.mod(java.math.BigInteger.valueOf(modulus)).intValue();
            due.is(41, "countModulo(" + modulus + ")", x.countModulo(modulus), want);
        }
        for (int modulus : new int[] {1, 0, -1, 1000000001, MIN, MAX}) {
            due.is(41, "countModulo(" + modulus + ")", x.countModulo(modulus), BAD);
        }
    }

    private static void runsAndDiscrepancy() {
        DeBruijnWorkbench x = Due.bench(3, 2, "0012200");
        due.is(42, "runCount(0, 4)", x.runCount(0, 4), 1);
        due.is(42, "runCount(0, 2)", x.runCount(0, 2), 0);
        due.is(42, "runCount(1, 1)", x.runCount(1, 1), 1);
        due.is(42, "runCount(2, 2)", x.runCount(2, 2), 1);
        due.is(42, "runCount(2, 1)", x.runCount(2, 1), 0);
        due.is(42, "runCount(2, 256)", x.runCount(2, 256), 0);
        due.is(42, "runCount(3, 1)", x.runCount(3, 1), BAD);
        due.is(42, "runCount(-1, 1)", x.runCount(-1, 1), BAD);
        due.is(42, "runCount(0, 0)", x.runCount(0, 0), BAD);
        due.is(42, "runCount(0, 257)", x.runCount(0, 257), BAD);
        due.is(42, "runCount(0, MIN)", x.runCount(0, MIN), BAD);
        due.is(43, "discrepancy(0)", x.discrepancy(0), 5);
        due.is(43, "discrepancy(1)", x.discrepancy(1), 4);
        due.is(43, "discrepancy(2)", x.discrepancy(2), 4);
        due.is(43, "discrepancy(3)", x.discrepancy(3), BAD);
        due.is(43, "discrepancy(-1)", x.discrepancy(-1), BAD);
        DeBruijnWorkbench y = Due.bench(3, 2, "220");
        due.is(43, "discrepancy(2)", y.discrepancy(2), 4);
        due.is(43, "discrepancy(1)", y.discrepancy(1), 3);
        DeBruijnWorkbench constant = Due.bench(2, 2, "111");
        due.is(42, "runCount(1, 3)", constant.runCount(1, 3), 1);
        due.is(42, "runCount(1, 2)", constant.runCount(1, 2), 0);
        due.is(42, "runCount(0, 3)", constant.runCount(0, 3), 0);
        DeBruijnWorkbench full = new DeBruijnWorkbench();
        full.createTable(0, 0, 256);
        full.importTable(0, 0);
        due.is(42, "runCount(0, 256)", full.runCount(0, 256), 1);
        due.is(43, "discrepancy(0)", full.discrepancy(0), 256);
        DeBruijnWorkbench turns = Due.bench(2, 2, "0101");
        due.is(42, "runCount(0, 1)", turns.runCount(0, 1), 2);
        DeBruijnWorkbench empty = new DeBruijnWorkbench();
        due.is(42, "runCount(0, 1)", empty.runCount(0, 1), 0);
        due.is(43, "discrepancy(1)", empty.discrepancy(1), 0);
    }

    private static void autocorrelation() {
        DeBruijnWorkbench x = Due.bench(2, 2, "01");
        due.is(44, "autocorrelationBits(0)", x.autocorrelationBits(0), Double.doubleToLongBits(1.0));
        due.is(44, "autocorrelationBits(1)", x.autocorrelationBits(1), Double.doubleToLongBits(-1.0));
        due.is(44, "autocorrelationBits(256)", x.autocorrelationBits(256), Double.doubleToLongBits(1.0));
        due.is(44, "autocorrelationBits(255)", x.autocorrelationBits(255), Double.doubleToLongBits(-1.0));
        due.is(44, "autocorrelationBits(257)", x.autocorrelationBits(257), BAD);
        due.is(44, "autocorrelationBits(-1)", x.autocorrelationBits(-1), BAD);
        DeBruijnWorkbench y = Due.bench(4, 2, "0312023");
        int[] letters = {0, 3, 1, 2, 0, 2, 3};
        for (int shift = 0; shift <= 256; shift++) {
            double m = 11.0 / 7.0;
            double a = 0.0;
            double b = 0.0;
            for (int i = 0; i < 7; i++) {
                a += (letters[i] - m) * (letters[(i + shift) % 7] - m);
                b += (letters[i] - m) * (letters[i] - m);
            }
            due.is(44, "autocorrelationBits(" + shift + ")", y.autocorrelationBits(shift), Double.doubleToLongBits(a / b));
        }
        due.is(44, "autocorrelationBits(1)", built(2, 3, 1, 0).autocorrelationBits(1), 0);
        DeBruijnWorkbench empty = new DeBruijnWorkbench();
        due.is(44, "autocorrelationBits(0)", empty.autocorrelationBits(0), EMPTY);
        due.is(44, "autocorrelationBits(-1)", empty.autocorrelationBits(-1), BAD);
        DeBruijnWorkbench constant = Due.bench(3, 2, "222");
        due.is(44, "autocorrelationBits(0)", constant.autocorrelationBits(0), CONSTANT);
        due.is(44, "autocorrelationBits(257)", constant.autocorrelationBits(257), BAD);
    }

    private static void undoing() {
        DeBruijnWorkbench x = new DeBruijnWorkbench();
        due.is(45, "undo()", x.undo(), NOTHING);
        for (int i = 1; i <= 7; i++) {
            x.appendLetter(i % 2);
            due.is(46, "undoCount()", x.undoCount(), Math.min(i, 6));
        }
        due.is(45, "undo()", x.undo(), 6);
        due.is(45, "undo()", x.undo(), 5);
        due.is(46, "undoCount()", x.undoCount(), 4);
        due.is(45, "complement()", x.complement(), 0);
        due.is(46, "undoCount()", x.undoCount(), 5);
        due.sequence(45, x, "01010");
        due.is(45, "undo()", x.undo(), 5);
        due.sequence(45, x, "10101");
        for (int i = 4; i >= 1; i--) {
            due.is(45, "undo()", x.undo(), i);
            due.is(46, "undoCount()", x.undoCount(), i - 1);
        }
        due.is(45, "undo()", x.undo(), NOTHING);
        due.sequence(45, x, "1");
        everyEditCounts();
        longSequences();
    }

    private static void longSequences() {
        DeBruijnWorkbench x = new DeBruijnWorkbench();
        x.configure(4, 4);
        String[] before = new String[10];
        for (int i = 0; i < before.length; i++) {
            before[i] = Due.letters(x);
            x.construct(3, 7 * i);
        }
        for (int i = before.length - 1; i >= before.length - 6; i--) {
            due.is(45, "undo()", x.undo(), 256);
            due.sequence(45, x, before[i]);
        }
        due.is(45, "undo()", x.undo(), NOTHING);
    }

    private static void everyEditCounts() {
        DeBruijnWorkbench x = Due.bench(2, 2, "0");
        x.createTable(1, 0, 0);
        due.is(45, "importTable(1, 0)", x.importTable(1, 0), 0);
        due.is(46, "undoCount()", x.undoCount(), 2);
        due.is(45, "undo()", x.undo(), 1);
        x.createTable(1, 0, 4);
        x.importTable(1, 0);
        x.cut(0, 1);
        due.is(46, "undoCount()", x.undoCount(), 3);
        due.is(9, "joined:1", Due.run(x, "joined:1"), 4);
        due.is(46, "undoCount()", x.undoCount(), 4);
        x.rotate(0);
        due.is(46, "undoCount()", x.undoCount(), 5);
        x.appendCommand('g');
        x.writeTable(1, 0, 9);
        due.is(45, "undo()", x.undo(), 4);
        due.is(45, "undo()", x.undo(), 3);
        due.is(45, "undo()", x.undo(), 4);
        due.sequence(45, x, "0000");
        due.is(45, "readTable(1, 0)", x.readTable(1, 0), 9);
        due.is(45, "the rest of the command", Due.run(x, "reedy"), 4);
    }

    private static void snapshots() {
        DeBruijnWorkbench x = Due.bench(3, 2, "0120");
        due.is(47, "save()", x.save(), 4);
        due.is(47, "undoCount()", x.undoCount(), 4);
        x.configure(2, 5);
        x.appendLetter(1);
        x.appendPattern(1);
        x.appendCommand('g');
        due.is(48, "restore()", x.restore(), 4);
        due.is(48, "letterCount()", x.letterCount(), 3);
        due.is(48, "order()", x.order(), 2);
        due.sequence(48, x, "0120");
        due.is(48, "undoCount()", x.undoCount(), 0);
        due.is(48, "clearPattern()", x.clearPattern(), 0);
        due.is(48, "positionOf(8)", x.positionOf(8), NONE);
        due.is(48, "the rest of the command", Due.run(x, "reedy"), 9);
        due.is(48, "restore()", x.restore(), 4);
        x.cut(0, 3);
        due.sequence(47, x, "0");
        due.is(47, "save()", x.save(), 1);
        x.appendLetter(2);
        due.is(48, "restore()", x.restore(), 1);
        due.sequence(48, x, "0");
        DeBruijnWorkbench empty = new DeBruijnWorkbench();
        empty.appendPattern(1);
        empty.appendLetter(1);
        due.is(48, "restore()", empty.restore(), NOTHING);
        due.is(48, "undo()", empty.undo(), 0);
        due.is(48, "clearPattern()", empty.clearPattern(), 1);
        due.is(47, "save()", empty.save(), 0);
        empty.appendLetter(1);
        due.is(48, "restore()", empty.restore(), 0);
    }

    private static void oneLetter() {
        DeBruijnWorkbench x = Due.bench(4, 3, "2");
        due.is(12, "rotate(5)", x.rotate(5), 2);
        due.is(13, "reverse()", x.reverse(), 1);
        due.is(14, "complement()", x.complement(), 1);
        due.is(17, "firstCut(1)", x.firstCut(1), BAD);
        due.is(20, "letterAfter(21)", x.letterAfter(21), 1);
        due.is(22, "distance(21, 21)", x.distance(21, 21), 0);
        due.is(23, "linearLength()", x.linearLength(), 3);
        due.is(24, "linearLetter(0)", x.linearLetter(0), 1);
        due.is(24, "linearLetter(2)", x.linearLetter(2), 1);
        due.is(26, "missingBlock(20)", x.missingBlock(20), 20);
        due.is(26, "missingBlock(21)", x.missingBlock(21), 22);
        due.is(26, "missingBlock(63)", x.missingBlock(63), NONE);
        due.is(40, "patternPosition(0)", x.patternPosition(0), 0);
        due.is(42, "runCount(1, 1)", x.runCount(1, 1), 1);
        due.is(43, "discrepancy(1)", x.discrepancy(1), 3);
        due.is(44, "autocorrelationBits(9)", x.autocorrelationBits(9), CONSTANT);
    }

    private static void tables() {
        DeBruijnWorkbench x = new DeBruijnWorkbench();
        due.is(49, "createTable(2, 0, -1)", x.createTable(2, 0, -1), BAD);
        due.is(49, "createTable(-1, 0, 1)", x.createTable(-1, 0, 1), BAD);
        due.is(49, "createTable(0, 2, -1)", x.createTable(0, 2, -1), BAD);
        due.is(49, "createTable(0, -1, 1)", x.createTable(0, -1, 1), BAD);
        due.is(49, "createTable(0, 0, 257)", x.createTable(0, 0, 257), BAD);
        due.is(49, "createTable(0, 0, -1)", x.createTable(0, 0, -1), NEGATIVE);
        due.is(49, "createTable(0, 1, MIN)", x.createTable(0, 1, MIN), NEGATIVE);
        due.is(50, "writeTable(0, 0, 0)", x.writeTable(0, 0, 0), MISSING);
        due.is(50, "writeTable(2, 0, 0)", x.writeTable(2, 0, 0), BAD);
        due.is(51, "readTable(0, -1)", x.readTable(0, -1), MISSING);
        due.is(51, "readTable(-1, 0)", x.readTable(-1, 0), BAD);
        due.is(49, "createTable(0, 0, 256)", x.createTable(0, 0, 256), 1);
        due.is(49, "createTable(1, 1, 2)", x.createTable(1, 1, 2), 1);
        int[][] values = {{0, 0, 0}, {127, 127, 127}, {128, -128, 128}, {-1, -1, 65535}, {65536, 0, 0}, {-129, 127, 65407},
            {MIN, 0, 0}, {MAX, -1, 65535}, {254, -2, 254}};
        for (int[] row : values) {
            due.is(50, "writeTable(0, 255, " + row[0] + ")", x.writeTable(0, 255, row[0]), 1);
            due.is(51, "readTable(0, 255)", x.readTable(0, 255), row[1]);
            due.is(50, "writeTable(1, 1, " + row[0] + ")", x.writeTable(1, 1, row[0]), 1);
            due.is(51, "readTable(1, 1)", x.readTable(1, 1), row[2]);
        }
        due.is(50, "writeTable(1, 2, 0)", x.writeTable(1, 2, 0), OUT);
        due.is(50, "writeTable(1, -1, 0)", x.writeTable(1, -1, 0), OUT);
        due.is(50, "writeTable(0, 256, 0)", x.writeTable(0, 256, 0), OUT);
        due.is(51, "readTable(0, 256)", x.readTable(0, 256), OUT);
        due.is(51, "readTable(1, MIN)", x.readTable(1, MIN), OUT);
        due.is(49, "createTable(0, 0, 300)", x.createTable(0, 0, 300), BAD);
        due.is(51, "readTable(0, 255)", x.readTable(0, 255), -2);
        x.writeTable(0, 0, 5);
        due.is(49, "createTable(0, 1, 256)", x.createTable(0, 1, 256), 1);
        due.is(49, "readTable(0, 255)", x.readTable(0, 255), 0);
        due.is(49, "readTable(0, 0)", x.readTable(0, 0), 0);
        due.is(49, "createTable(1, 0, 0)", x.createTable(1, 0, 0), 1);
        due.is(51, "readTable(1, 0)", x.readTable(1, 0), OUT);
    }

    private static void exports() {
        DeBruijnWorkbench x = Due.bench(4, 1, "0312");
        due.is(52, "exportTable(2, 0)", x.exportTable(2, 0), BAD);
        due.is(52, "exportTable(0, 0)", x.exportTable(0, 0), MISSING);
        x.createTable(0, 0, 6);
        x.createTable(1, 1, 6);
        due.is(52, "exportTable(0, 2)", x.exportTable(0, 2), 4);
        due.is(52, "exportTable(1, 1)", x.exportTable(1, 1), 4);
        int[] bytes = {0, 0, 0, 3, 1, 2};
        int[] chars = {0, 'a', 'd', 'b', 'c', 0};
        for (int i = 0; i < 6; i++) {
            due.is(52, "readTable(0, " + i + ")", x.readTable(0, i), bytes[i]);
            due.is(52, "readTable(1, " + i + ")", x.readTable(1, i), chars[i]);
        }
        due.is(52, "exportTable(1, 4)", x.exportTable(1, 4), OUT);
        due.is(52, "readTable(1, 4)", x.readTable(1, 4), 'a');
        due.is(52, "readTable(1, 5)", x.readTable(1, 5), 'd');
        x.complement();
        due.is(52, "exportTable(0, -1)", x.exportTable(0, -1), OUT);
        due.is(52, "exportTable(0, 6)", x.exportTable(0, 6), OUT);
        due.is(52, "exportTable(0, MAX)", x.exportTable(0, MAX), OUT);
        due.is(52, "exportTable(0, MIN)", x.exportTable(0, MIN), OUT);
        due.is(52, "readTable(0, 0)", x.readTable(0, 0), 0);
        due.is(52, "undoCount()", x.undoCount(), 5);
        x.configure(4, 1);
        due.is(52, "exportTable(0, -1)", x.exportTable(0, -1), 0);
        due.is(52, "exportTable(0, MAX)", x.exportTable(0, MAX), 0);
    }

    private static void imports() {
        DeBruijnWorkbench x = Due.bench(3, 2, "01");
        due.is(53, "importTable(2, 0)", x.importTable(2, 0), BAD);
        due.is(53, "importTable(0, 2)", x.importTable(0, 2), BAD);
        due.is(53, "importTable(0, -1)", x.importTable(0, -1), BAD);
        due.is(53, "importTable(0, 0)", x.importTable(0, 0), MISSING);
        x.createTable(0, 0, 3);
        x.createTable(1, 1, 3);
        due.is(53, "importTable(0, 1)", x.importTable(0, 1), WRONG_TYPE);
        due.is(53, "importTable(1, 0)", x.importTable(1, 0), WRONG_TYPE);
        due.is(53, "importTable(1, 1)", x.importTable(1, 1), MISMATCH);
        for (int i = 0; i < 3; i++) {
            x.writeTable(0, i, 2 - i);
            x.writeTable(1, i, 'a' + i);
        }
        due.is(53, "importTable(0, 0)", x.importTable(0, 0), 3);
        due.sequence(53, x, "210");
        due.is(53, "importTable(1, 1)", x.importTable(1, 1), 3);
        due.sequence(53, x, "012");
        for (int value : new int[] {3, -1, 'a'}) {
            x.writeTable(0, 2, value);
            due.is(53, "importTable(0, 0)", x.importTable(0, 0), MISMATCH);
        }
        for (int value : new int[] {'d', '`', 'A', 0, 65535}) {
            x.writeTable(1, 2, value);
            due.is(53, "importTable(1, 1)", x.importTable(1, 1), MISMATCH);
        }
        due.sequence(53, x, "012");
        due.is(53, "undoCount()", x.undoCount(), 4);
        x.createTable(1, 1, 0);
        due.is(53, "importTable(1, 1)", x.importTable(1, 1), 0);
        due.is(53, "undoCount()", x.undoCount(), 5);
        due.is(53, "undo()", x.undo(), 3);
        due.sequence(53, x, "012");
    }
}
