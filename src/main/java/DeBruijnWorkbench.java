/** A workbench for de Bruijn sequences over 2 to 4 letters; README.md says how to use it. */
public final class DeBruijnWorkbench {
    public static final int BAD_ARGUMENT = -1;
    public static final int NONE = -2;
    public static final int EMPTY = -3;
    public static final int FULL = -4;
    public static final int MISMATCH = -5;
    public static final int UNKNOWN_NAME = -6;
    public static final int NOTHING_SAVED = -7;
    public static final int CONSTANT = -8;
    public static final int MISSING_TABLE = -11;
    public static final int WRONG_TYPE = -12;
    public static final int OUT_OF_BOUNDS = -13;
    public static final int NEGATIVE_LENGTH = -14;

    /** The most letters of a sequence, the most blocks and the most elements of a table. */
    private static final int CAPACITY = 256;
    private static final int GREEDY = 0;
    private static final int LYNDON = 1;
    private static final int NECKLACE = 2;
    private static final int JOINED = 3;
    private static final int MOST_STEPS = 300;
    private static final int ANY_LETTER = -1;
    private static final int BYTE_TYPE = 0;
    private static final int CHAR_TYPE = 1;

    private final Shape shape = new Shape();
    private final Word sequence = new Word();
    /** Every edit is composed here first, so that the sequence it reads from stays whole. */
    private final Word draft = new Word();
    private final Blocks blocks = new Blocks();
    private final Builder builder = new Builder();
    private final Command command = new Command();
    private final Pattern pattern = new Pattern();
    private final History history = new History();
    private final Snapshot snapshot = new Snapshot();
    private final Table firstTable = new Table();
    private final Table secondTable = new Table();

    public DeBruijnWorkbench() {
    }

    // The alphabet, the order and the letters of the sequence.

    public int configure(int letters, int order) {
        if (!Shape.isPossible(letters, order)) {
            return BAD_ARGUMENT;
        }
        shape.change(letters, order);
        sequence.clear();
        forgetPatternAndHistory();
        return shape.blockTotal();
    }

    public int letterCount() {
        return shape.letterTotal();
    }

    public int order() {
        return shape.blockSize();
    }

    public int length() {
        return sequence.size();
    }

    public int letter(int position) {
        return sequence.at(position);
    }

    // Constructions.

    public int construct(int kind, int parameter) {
        if (kind < GREEDY || kind > JOINED) {
            return BAD_ARGUMENT;
        }
        if (kind == JOINED && (parameter < 0 || parameter >= shape.tailTotal())) {
            return BAD_ARGUMENT;
        }
        draft.clear();
        builder.build(shape, kind, parameter, draft);
        takeDraft();
        return sequence.size();
    }

    public int appendCommand(int character) {
        if (!Command.isSign(character)) {
            return BAD_ARGUMENT;
        }
        if (command.isFull()) {
            return FULL;
        }
        command.add(character);
        return command.size();
    }

    public int runCommand() {
        int kind = command.kind();
        int parameter = command.parameter();
        command.clear();
        if (kind == UNKNOWN_NAME) {
            return UNKNOWN_NAME;
        }
        if (parameter == BAD_ARGUMENT) {
            return BAD_ARGUMENT;
        }
        return construct(kind, parameter);
    }

    // Edits.

    public int setLetter(int position, int letter) {
        if (!sequence.has(position)) {
            return NONE;
        }
        if (!shape.isLetter(letter)) {
            return BAD_ARGUMENT;
        }
        int previous = sequence.at(position);
        draft.become(sequence);
        draft.put(position, letter);
        takeDraft();
        return previous;
    }

    public int appendLetter(int letter) {
        if (!shape.isLetter(letter)) {
            return BAD_ARGUMENT;
        }
        if (sequence.isFull()) {
            return FULL;
        }
        draft.become(sequence);
        draft.add(letter);
        takeDraft();
        return sequence.size();
    }

    public int rotate(int shift) {
        int size = sequence.size();
        if (size < 1) {
            return EMPTY;
        }
        draft.clear();
        // The shift is made small first: added to a position it would wrap around.
        draft.addPart(sequence, Math.floorMod(shift, size), size);
        takeDraft();
        return sequence.at(0);
    }

    public int reverse() {
        int size = sequence.size();
        if (size < 1) {
            return EMPTY;
        }
        draft.clear();
        for (int i = size - 1; i >= 0; i--) {
            draft.add(sequence.at(i));
        }
        return takeDraft() ? 0 : 1;
    }

    public int complement() {
        int size = sequence.size();
        if (size < 1) {
            return EMPTY;
        }
        draft.clear();
        for (int i = 0; i < size; i++) {
            draft.add(shape.letterTotal() - 1 - sequence.at(i));
        }
        takeDraft();
        return sequence.at(0);
    }

    public int cut(int position, int count) {
        if (!sequence.has(position)) {
            return NONE;
        }
        if (!isCutCount(count)) {
            return BAD_ARGUMENT;
        }
        if (!canCut(position, count)) {
            return MISMATCH;
        }
        draft.clear();
        draft.addPart(sequence, position + count, sequence.size() - count);
        takeDraft();
        return sequence.size();
    }

    public int exchange(int first, int second, int third, int fourth) {
        if (!sequence.has(first) || !sequence.has(second) || !sequence.has(third) || !sequence.has(fourth)) {
            return NONE;
        }
        if (first >= second || second >= third || third >= fourth) {
            return BAD_ARGUMENT;
        }
        int overlap = shape.blockSize() - 1;
        if (!sequence.repeats(first, third, overlap) || !sequence.repeats(second, fourth, overlap)) {
            return MISMATCH;
        }
        draft.clear();
        draft.addPart(sequence, 0, first);
        draft.addPart(sequence, third, fourth - third);
        draft.addPart(sequence, second, third - second);
        draft.addPart(sequence, first, second - first);
        draft.addPart(sequence, fourth, sequence.size() - fourth);
        return takeDraft() ? 1 : 0;
    }

    public int firstCut(int count) {
        int size = sequence.size();
        if (size < 1) {
            return EMPTY;
        }
        if (!isCutCount(count)) {
            return BAD_ARGUMENT;
        }
        for (int i = 0; i < size; i++) {
            if (canCut(i, count)) {
                return i;
            }
        }
        return NONE;
    }

    // Lookup of blocks.

    public int blockAt(int position) {
        return sequence.has(position) ? shape.codeAt(sequence, position) : NONE;
    }

    public int positionOf(int block) {
        return shape.isBlock(block) ? blocks.firstPlace(shape, sequence, block) : BAD_ARGUMENT;
    }

    public int letterAfter(int block) {
        if (!shape.isBlock(block)) {
            return BAD_ARGUMENT;
        }
        int position = blocks.firstPlace(shape, sequence, block);
        return position == NONE ? NONE : sequence.around(position + shape.blockSize());
    }

    public int occurrences(int block) {
        return shape.isBlock(block) ? blocks.placeTotal(shape, sequence, block) : BAD_ARGUMENT;
    }

    public int distance(int block, int other) {
        if (!shape.isBlock(block) || !shape.isBlock(other)) {
            return BAD_ARGUMENT;
        }
        int from = blocks.firstPlace(shape, sequence, block);
        int to = blocks.firstPlace(shape, sequence, other);
        if (from == NONE || to == NONE) {
            return NONE;
        }
        return to >= from ? to - from : to - from + sequence.size();
    }

    public int linearLength() {
        return sequence.size() < 1 ? 0 : sequence.size() + shape.blockSize() - 1;
    }

    public int linearLetter(int position) {
        boolean exists = position >= 0 && position < linearLength();
        return exists ? sequence.around(position) : NONE;
    }

    public int differentBlocks() {
        return blocks.differentTotal(shape, sequence);
    }

    public int missingBlock(int index) {
        return blocks.missing(shape, sequence, index);
    }

    public int firstRepeat() {
        return blocks.repeatPlace(shape, sequence);
    }

    public int isDeBruijn() {
        int total = shape.blockTotal();
        return sequence.size() == total && blocks.differentTotal(shape, sequence) == total ? 1 : 0;
    }

    // The successor rule, necklaces and Lyndon words.

    public int successorLetter(int block) {
        return shape.isBlock(block) ? shape.successor(block) : BAD_ARGUMENT;
    }

    public int follow(int block, int steps) {
        if (!shape.isBlock(block) || steps < 0 || steps > MOST_STEPS) {
            return BAD_ARGUMENT;
        }
        int reached = block;
        for (int i = 0; i < steps; i++) {
            reached = shape.moved(reached, shape.successor(reached));
        }
        return reached;
    }

    public int isNecklace(int block) {
        if (!shape.isBlock(block)) {
            return BAD_ARGUMENT;
        }
        return shape.isLeastRotation(block) ? 1 : 0;
    }

    public int necklaceOf(int block) {
        return shape.isBlock(block) ? shape.leastRotation(block) : BAD_ARGUMENT;
    }

    public int rotationCount(int block) {
        return shape.isBlock(block) ? shape.rotationTotal(block) : BAD_ARGUMENT;
    }

    public int necklace(int index) {
        return shape.necklaceAt(index);
    }

    public int lyndonCount(int length) {
        return shape.isLyndonLength(length) ? shape.lyndonTotal(length) : BAD_ARGUMENT;
    }

    public int lyndonWord(int length, int index) {
        return shape.isLyndonLength(length) ? shape.lyndonAt(length, index) : BAD_ARGUMENT;
    }

    // The pattern.

    public int appendPattern(int letter) {
        if (letter != ANY_LETTER && !shape.isLetter(letter)) {
            return BAD_ARGUMENT;
        }
        if (pattern.isFull()) {
            return FULL;
        }
        pattern.add(letter);
        return pattern.size();
    }

    public int clearPattern() {
        int previous = pattern.size();
        pattern.clear();
        return previous;
    }

    public int patternCount() {
        return pattern.matchTotal(sequence);
    }

    public int patternPosition(int index) {
        return pattern.matchPlace(sequence, index);
    }

    // Statistics.

    public int countModulo(int modulus) {
        return modulus < 2 || modulus > 1000000000 ? BAD_ARGUMENT : shape.cycleTotalModulo(modulus);
    }

    public int runCount(int letter, int runLength) {
        if (!shape.isLetter(letter) || runLength < 1 || runLength > CAPACITY) {
            return BAD_ARGUMENT;
        }
        return Statistics.runs(sequence, letter, runLength);
    }

    public int discrepancy(int letter) {
        if (!shape.isLetter(letter)) {
            return BAD_ARGUMENT;
        }
        return Statistics.spread(sequence, letter, shape.letterTotal());
    }

    public long autocorrelationBits(int shift) {
        if (shift < 0 || shift > CAPACITY) {
            return BAD_ARGUMENT;
        }
        if (sequence.size() < 1) {
            return EMPTY;
        }
        if (sequence.isConstant()) {
            return CONSTANT;
        }
        return Statistics.bitsOf(Statistics.autocorrelation(sequence, shift));
    }

    // Earlier sequences and the snapshot.

    public int undo() {
        if (history.size() < 1) {
            return NOTHING_SAVED;
        }
        history.bringBack(sequence);
        return sequence.size();
    }

    public int undoCount() {
        return history.size();
    }

    public int save() {
        snapshot.take(shape, sequence);
        return sequence.size();
    }

    public int restore() {
        if (!snapshot.isTaken()) {
            return NOTHING_SAVED;
        }
        snapshot.giveBack(shape, sequence);
        forgetPatternAndHistory();
        return sequence.size();
    }

    // Tables.

    public int createTable(int table, int type, int length) {
        if (!isTable(table) || !Table.isType(type) || length > CAPACITY) {
            return BAD_ARGUMENT;
        }
        if (length < 0) {
            return NEGATIVE_LENGTH;
        }
        tableOf(table).create(type, length);
        return 1;
    }

    public int writeTable(int table, int index, int value) {
        if (!isTable(table)) {
            return BAD_ARGUMENT;
        }
        Table chosen = tableOf(table);
        if (chosen.isMissing()) {
            return MISSING_TABLE;
        }
        if (!chosen.has(index)) {
            return OUT_OF_BOUNDS;
        }
        chosen.put(index, value);
        return 1;
    }

    public int readTable(int table, int index) {
        if (!isTable(table)) {
            return BAD_ARGUMENT;
        }
        Table chosen = tableOf(table);
        if (chosen.isMissing()) {
            return MISSING_TABLE;
        }
        return chosen.has(index) ? chosen.at(index) : OUT_OF_BOUNDS;
    }

    public int exportTable(int table, int from) {
        if (!isTable(table)) {
            return BAD_ARGUMENT;
        }
        Table chosen = tableOf(table);
        if (chosen.isMissing()) {
            return MISSING_TABLE;
        }
        int size = sequence.size();
        for (int i = 0; i < size; i++) {
            if (!chosen.has(from + i)) {
                return OUT_OF_BOUNDS;
            }
            chosen.put(from + i, chosen.letterBase() + sequence.at(i));
        }
        return size;
    }

    public int importTable(int table, int type) {
        if (!isTable(table) || !Table.isType(type)) {
            return BAD_ARGUMENT;
        }
        Table chosen = tableOf(table);
        if (chosen.isMissing()) {
            return MISSING_TABLE;
        }
        if (!chosen.isOfType(type)) {
            return WRONG_TYPE;
        }
        int size = chosen.size();
        draft.clear();
        for (int i = 0; i < size; i++) {
            int letter = chosen.at(i) - chosen.letterBase();
            if (!shape.isLetter(letter)) {
                return MISMATCH;
            }
            draft.add(letter);
        }
        takeDraft();
        return sequence.size();
    }

    // What several calls share.

    /** Makes the draft the sequence, as one edit, and says whether that changed the sequence. */
    private boolean takeDraft() {
        boolean changed = !draft.isSame(sequence);
        history.remember(sequence);
        sequence.become(draft);
        return changed;
    }

    private void forgetPatternAndHistory() {
        pattern.clear();
        history.clear();
    }

    private boolean isCutCount(int count) {
        return count >= 1 && count < sequence.size();
    }

    private boolean canCut(int position, int count) {
        return sequence.repeats(position, position + count, shape.blockSize() - 1);
    }

    private static boolean isTable(int table) {
        return table == 0 || table == 1;
    }

    private Table tableOf(int table) {
        return table == 0 ? firstTable : secondTable;
    }

    /** A row of letters, read once from the front or round and round. */
    private static final class Word {
        private final int[] letters = new int[CAPACITY];
        private int size = 0;

        int size() {
            return size;
        }

        boolean isFull() {
            return size >= CAPACITY;
        }

        boolean has(int position) {
            return position >= 0 && position < size;
        }

        int at(int position) {
            return has(position) ? letters[position] : NONE;
        }

        /** The letter at a position modulo the size; NONE in an empty word, which has no letter. */
        int around(int position) {
            return size < 1 ? NONE : letters[Math.floorMod(position, size)];
        }

        void clear() {
            size = 0;
        }

        void put(int position, int letter) {
            if (has(position)) {
                letters[position] = letter;
            }
        }

        void add(int letter) {
            if (!isFull()) {
                letters[size] = letter;
                size++;
            }
        }

        /** Adds letters of another word, from a position on and modulo its size. */
        void addPart(Word other, int from, int count) {
            for (int i = 0; i < count; i++) {
                add(other.around(from + i));
            }
        }

        void become(Word other) {
            copyFrom(other.letters, 0, other.size);
        }

        void copyTo(int[] row, int from) {
            if (from >= 0 && from <= row.length - size) {
                System.arraycopy(letters, 0, row, from, size);
            }
        }

        void copyFrom(int[] row, int from, int count) {
            if (count >= 0 && count <= CAPACITY && from >= 0 && from <= row.length - count) {
                System.arraycopy(row, from, letters, 0, count);
                size = count;
            }
        }

        boolean isSame(Word other) {
            if (size != other.size) {
                return false;
            }
            for (int i = 0; i < size; i++) {
                if (letters[i] != other.letters[i]) {
                    return false;
                }
            }
            return true;
        }

        /** Whether the letters from two positions on are equal, modulo the size. */
        boolean repeats(int first, int second, int count) {
            for (int i = 0; i < count; i++) {
                if (around(first + i) != around(second + i)) {
                    return false;
                }
            }
            return true;
        }

        boolean isConstant() {
            return repeats(0, 1, size);
        }
    }

    /** The alphabet and the order: what can be said of blocks without a sequence. */
    private static final class Shape {
        private int letterTotal = 2;
        private int blockSize = 3;
        private int blockTotal = 8;
        /** The number of words that are one letter shorter than a block. */
        private int tailTotal = 4;

        static boolean isPossible(int letters, int order) {
            if (letters < 2 || letters > 4 || order < 1 || order > 6) {
                return false;
            }
            return power(letters, order) <= CAPACITY;
        }

        void change(int letters, int order) {
            letterTotal = letters;
            blockSize = order;
            blockTotal = power(letters, order);
            tailTotal = power(letters, order - 1);
        }

        int letterTotal() {
            return letterTotal;
        }

        int blockSize() {
            return blockSize;
        }

        int blockTotal() {
            return blockTotal;
        }

        int tailTotal() {
            return tailTotal;
        }

        boolean isLetter(int letter) {
            return letter >= 0 && letter < letterTotal;
        }

        boolean isBlock(int block) {
            return block >= 0 && block < blockTotal;
        }

        int codeAt(Word word, int position) {
            int code = 0;
            for (int i = 0; i < blockSize; i++) {
                code = code * letterTotal + word.around(position + i);
            }
            return code;
        }

        int firstLetter(int block) {
            return tailTotal < 1 ? 0 : block / tailTotal;
        }

        /** The letters of a block behind its first one. */
        int tail(int block) {
            return tailTotal < 1 ? 0 : block % tailTotal;
        }

        /** The block that has a letter before a tail. */
        int headed(int letter, int tail) {
            return letter * tailTotal + tail;
        }

        /** The block that has a letter behind a tail. */
        int ended(int tail, int letter) {
            return tail * letterTotal + letter;
        }

        /** The block that follows when its first letter goes and another one comes behind. */
        int moved(int block, int letter) {
            return ended(tail(block), letter);
        }

        int successor(int block) {
            int first = firstLetter(block);
            int tail = tail(block);
            int least = 1;
            while (least < letterTotal && !isLeastRotation(ended(tail, least))) {
                least++;
            }
            if (least == letterTotal || first < least - 1) {
                return first;
            }
            return first == letterTotal - 1 ? least - 1 : first + 1;
        }

        boolean isLeastRotation(int block) {
            int turned = block;
            for (int i = 1; i < blockSize; i++) {
                turned = turned(turned, tailTotal);
                if (turned < block) {
                    return false;
                }
            }
            return true;
        }

        int leastRotation(int block) {
            int least = block;
            int turned = block;
            for (int i = 1; i < blockSize; i++) {
                turned = turned(turned, tailTotal);
                least = Math.min(least, turned);
            }
            return least;
        }

        int rotationTotal(int block) {
            int turned = block;
            for (int i = 1; i < blockSize; i++) {
                turned = turned(turned, tailTotal);
                if (turned == block) {
                    return i;
                }
            }
            return blockSize;
        }

        int necklaceAt(int index) {
            int found = 0;
            for (int block = 0; block < blockTotal; block++) {
                if (isLeastRotation(block)) {
                    if (found == index) {
                        return block;
                    }
                    found++;
                }
            }
            return NONE;
        }

        boolean isLyndonLength(int length) {
            return length >= 1 && length <= blockSize;
        }

        int lyndonTotal(int length) {
            int words = power(letterTotal, length);
            int found = 0;
            for (int word = 0; word < words; word++) {
                if (isLyndon(word, length)) {
                    found++;
                }
            }
            return found;
        }

        int lyndonAt(int length, int index) {
            int words = power(letterTotal, length);
            int found = 0;
            for (int word = 0; word < words; word++) {
                if (isLyndon(word, length)) {
                    if (found == index) {
                        return word;
                    }
                    found++;
                }
            }
            return NONE;
        }

        private boolean isLyndon(int word, int length) {
            int weight = power(letterTotal, length - 1);
            int turned = word;
            for (int i = 1; i < length; i++) {
                turned = turned(turned, weight);
                if (turned <= word) {
                    return false;
                }
            }
            return true;
        }

        /** A word whose first letter has moved to its end; the weight is that of the first letter. */
        private int turned(int word, int weight) {
            return weight < 1 ? word : word % weight * letterTotal + word / weight;
        }

        /** The number of de Bruijn sequences up to rotation, modulo a number from 2 to 10^9. */
        int cycleTotalModulo(int modulus) {
            if (modulus < 1) {
                return BAD_ARGUMENT;
            }
            // A product before its remainder is below 6 * 10^9: too large for an int.
            long total = 1L;
            int orderings = factorial(letterTotal - 1);
            for (int i = 0; i < tailTotal; i++) {
                total = total * orderings % modulus;
            }
            for (int i = blockSize; i < tailTotal; i++) {
                total = total * letterTotal % modulus;
            }
            return (int) total;
        }

        private static int factorial(int number) {
            int product = 1;
            for (int i = 2; i <= number; i++) {
                product = product * i;
            }
            return product;
        }

        private static int power(int base, int exponent) {
            int product = 1;
            for (int i = 0; i < exponent; i++) {
                product = product * base;
            }
            return product;
        }
    }

    /** A set of blocks. */
    private static final class Marks {
        private final boolean[] marked = new boolean[CAPACITY];

        void clear() {
            for (int i = 0; i < marked.length; i++) {
                marked[i] = false;
            }
        }

        boolean has(int block) {
            return block >= 0 && block < marked.length && marked[block];
        }

        void add(int block) {
            if (block >= 0 && block < marked.length) {
                marked[block] = true;
            }
        }
    }

    /** The blocks that occur in a word. */
    private static final class Blocks {
        private final Marks seen = new Marks();

        int firstPlace(Shape shape, Word word, int block) {
            for (int i = 0; i < word.size(); i++) {
                if (shape.codeAt(word, i) == block) {
                    return i;
                }
            }
            return NONE;
        }

        int placeTotal(Shape shape, Word word, int block) {
            int total = 0;
            for (int i = 0; i < word.size(); i++) {
                if (shape.codeAt(word, i) == block) {
                    total++;
                }
            }
            return total;
        }

        int repeatPlace(Shape shape, Word word) {
            seen.clear();
            for (int i = 0; i < word.size(); i++) {
                int block = shape.codeAt(word, i);
                if (seen.has(block)) {
                    return i;
                }
                seen.add(block);
            }
            return NONE;
        }

        int differentTotal(Shape shape, Word word) {
            look(shape, word);
            int total = 0;
            for (int block = 0; block < shape.blockTotal(); block++) {
                if (seen.has(block)) {
                    total++;
                }
            }
            return total;
        }

        int missing(Shape shape, Word word, int index) {
            look(shape, word);
            int found = 0;
            for (int block = 0; block < shape.blockTotal(); block++) {
                if (!seen.has(block)) {
                    if (found == index) {
                        return block;
                    }
                    found++;
                }
            }
            return NONE;
        }

        private void look(Shape shape, Word word) {
            seen.clear();
            for (int i = 0; i < word.size(); i++) {
                seen.add(shape.codeAt(word, i));
            }
        }
    }

    /** The four constructions. */
    private static final class Builder {
        private final Marks formed = new Marks();
        private final int[] successors = new int[CAPACITY];
        /** For each block a block of its cycle, the same for all blocks of one cycle. */
        private final int[] cycles = new int[CAPACITY];

        /** Adds the letters of a construction to a word. */
        void build(Shape shape, int kind, int parameter, Word word) {
            switch (kind) {
                case GREEDY:
                    buildGreedy(shape, word);
                    break;
                case LYNDON:
                    buildLyndon(shape, word);
                    break;
                case NECKLACE:
                    buildNecklace(shape, word);
                    break;
                default:
                    buildJoined(shape, parameter, word);
                    break;
            }
        }

        private void buildGreedy(Shape shape, Word word) {
            formed.clear();
            int tail = 0;
            for (int step = 0; step < shape.blockTotal(); step++) {
                int letter = greatestNew(shape, tail);
                if (letter == NONE) {
                    return;
                }
                int block = shape.ended(tail, letter);
                formed.add(block);
                word.add(letter);
                tail = shape.tail(block);
            }
        }

        private int greatestNew(Shape shape, int tail) {
            for (int letter = shape.letterTotal() - 1; letter >= 0; letter--) {
                if (!formed.has(shape.ended(tail, letter))) {
                    return letter;
                }
            }
            return NONE;
        }

        /**
         * A necklace of n letters is a power of one Lyndon word whose length divides n, and the
         * necklaces ascend as these Lyndon words do.
         */
        private void buildLyndon(Shape shape, Word word) {
            for (int block = 0; block < shape.blockTotal(); block++) {
                if (shape.isLeastRotation(block)) {
                    addStart(shape, block, shape.rotationTotal(block), word);
                }
            }
        }

        private void addStart(Shape shape, int block, int count, Word word) {
            int rest = block;
            for (int i = 0; i < count; i++) {
                word.add(shape.firstLetter(rest));
                rest = shape.moved(rest, 0);
            }
        }

        private void buildNecklace(Shape shape, Word word) {
            int block = 0;
            for (int step = 0; step < shape.blockTotal(); step++) {
                int letter = shape.successor(block);
                word.add(letter);
                block = shape.moved(block, letter);
            }
        }

        private void buildJoined(Shape shape, int start, Word word) {
            startCycles(shape);
            int tails = shape.tailTotal();
            for (int step = 0; step < tails; step++) {
                int tail = start + step < tails ? start + step : start + step - tails;
                for (int letter = 0; letter + 1 < shape.letterTotal(); letter++) {
                    join(shape.headed(letter, tail), shape.headed(letter + 1, tail));
                }
            }
            int block = 0;
            for (int step = 0; step < shape.blockTotal(); step++) {
                word.add(shape.firstLetter(block));
                block = isSlot(block) ? successors[block] : 0;
            }
        }

        private void startCycles(Shape shape) {
            for (int block = 0; block < shape.blockTotal(); block++) {
                if (isSlot(block)) {
                    successors[block] = shape.moved(block, shape.firstLetter(block));
                    cycles[block] = shape.leastRotation(block);
                }
            }
        }

        private void join(int block, int other) {
            if (!isSlot(block) || !isSlot(other) || cycles[block] == cycles[other]) {
                return;
            }
            int successor = successors[block];
            successors[block] = successors[other];
            successors[other] = successor;
            int joined = cycles[other];
            for (int i = 0; i < cycles.length; i++) {
                if (cycles[i] == joined) {
                    cycles[i] = cycles[block];
                }
            }
        }

        private static boolean isSlot(int block) {
            return block >= 0 && block < CAPACITY;
        }
    }

    /** The command that is being written. */
    private static final class Command {
        private static final int MOST_SIGNS = 20;
        private static final int MOST_DIGITS = 3;

        private final char[] signs = new char[MOST_SIGNS];
        private int size = 0;

        static boolean isSign(int character) {
            return character >= 33 && character <= 126;
        }

        int size() {
            return size;
        }

        boolean isFull() {
            return size >= MOST_SIGNS;
        }

        void add(int character) {
            if (!isFull()) {
                signs[size] = (char) character;
                size++;
            }
        }

        void clear() {
            size = 0;
        }

        /** The kind that the name stands for, or UNKNOWN_NAME. */
        int kind() {
            for (int kind = GREEDY; kind <= JOINED; kind++) {
                if (isName(nameOf(kind))) {
                    return kind;
                }
            }
            return UNKNOWN_NAME;
        }

        /** The number behind the colon, 0 without a colon, or BAD_ARGUMENT. */
        int parameter() {
            int colon = nameEnd();
            if (colon == size) {
                return 0;
            }
            int digits = size - colon - 1;
            return digits < 1 || digits > MOST_DIGITS ? BAD_ARGUMENT : number(colon + 1);
        }

        private int number(int from) {
            int value = 0;
            for (int i = from; i < size; i++) {
                int digit = signs[i] - '0';
                if (digit < 0 || digit > 9) {
                    return BAD_ARGUMENT;
                }
                value = value * 10 + digit;
            }
            return value;
        }

        private int nameEnd() {
            for (int i = 0; i < size; i++) {
                if (signs[i] == ':') {
                    return i;
                }
            }
            return size;
        }

        private boolean isName(String name) {
            if (nameEnd() != name.length()) {
                return false;
            }
            for (int i = 0; i < name.length(); i++) {
                if (signs[i] != name.charAt(i)) {
                    return false;
                }
            }
            return true;
        }

        private static String nameOf(int kind) {
            switch (kind) {
                case GREEDY:
                    return "greedy";
                case LYNDON:
                    return "lyndon";
                case NECKLACE:
                    return "necklace";
                default:
                    return "joined";
            }
        }
    }

    /** The pattern, whose elements are letters or ANY_LETTER. */
    private static final class Pattern {
        private static final int MOST_ELEMENTS = 8;

        private final int[] elements = new int[MOST_ELEMENTS];
        private int size = 0;

        int size() {
            return size;
        }

        boolean isFull() {
            return size >= MOST_ELEMENTS;
        }

        void add(int element) {
            if (!isFull()) {
                elements[size] = element;
                size++;
            }
        }

        void clear() {
            size = 0;
        }

        int matchTotal(Word word) {
            int total = 0;
            for (int i = 0; i < word.size(); i++) {
                if (isMatch(word, i)) {
                    total++;
                }
            }
            return total;
        }

        int matchPlace(Word word, int index) {
            int found = 0;
            for (int i = 0; i < word.size(); i++) {
                if (isMatch(word, i)) {
                    if (found == index) {
                        return i;
                    }
                    found++;
                }
            }
            return NONE;
        }

        private boolean isMatch(Word word, int position) {
            for (int i = 0; i < size; i++) {
                if (elements[i] != ANY_LETTER && elements[i] != word.around(position + i)) {
                    return false;
                }
            }
            return true;
        }
    }

    /** The latest earlier sequences, in rows that are written round and round. */
    private static final class History {
        private static final int MOST_EDITS = 6;

        private final int[] rows = new int[MOST_EDITS * CAPACITY];
        private final int[] sizes = new int[MOST_EDITS];
        /** The row that the next sequence goes to. */
        private int next = 0;
        private int size = 0;

        int size() {
            return size;
        }

        void clear() {
            size = 0;
        }

        void remember(Word word) {
            if (isRow(next)) {
                word.copyTo(rows, next * CAPACITY);
                sizes[next] = word.size();
            }
            next = isRow(next + 1) ? next + 1 : 0;
            size = Math.min(size + 1, MOST_EDITS);
        }

        void bringBack(Word word) {
            if (size < 1) {
                return;
            }
            next = isRow(next - 1) ? next - 1 : MOST_EDITS - 1;
            size--;
            if (isRow(next)) {
                word.copyFrom(rows, next * CAPACITY, sizes[next]);
            }
        }

        private static boolean isRow(int row) {
            return row >= 0 && row < MOST_EDITS;
        }
    }

    /** The saved alphabet, order and sequence. */
    private static final class Snapshot {
        private final Word word = new Word();
        private int letterTotal = 0;
        private int blockSize = 0;
        private boolean taken = false;

        boolean isTaken() {
            return taken;
        }

        void take(Shape shape, Word sequence) {
            letterTotal = shape.letterTotal();
            blockSize = shape.blockSize();
            word.become(sequence);
            taken = true;
        }

        void giveBack(Shape shape, Word sequence) {
            shape.change(letterTotal, blockSize);
            sequence.become(word);
        }
    }

    /** A table; its row is made once and serves both types and all lengths. */
    private static final class Table {
        private static final int MISSING = -1;

        private final int[] values = new int[CAPACITY];
        private int type = MISSING;
        private int size = 0;

        static boolean isType(int type) {
            return type == BYTE_TYPE || type == CHAR_TYPE;
        }

        boolean isMissing() {
            return type == MISSING;
        }

        boolean isOfType(int wanted) {
            return type == wanted;
        }

        int size() {
            return size;
        }

        boolean has(int index) {
            return index >= 0 && index < size;
        }

        int at(int index) {
            return has(index) ? values[index] : OUT_OF_BOUNDS;
        }

        void put(int index, int value) {
            if (has(index)) {
                values[index] = type == BYTE_TYPE ? (int) (byte) value : (int) (char) value;
            }
        }

        void create(int newType, int newSize) {
            type = newType;
            size = Math.max(0, Math.min(newSize, CAPACITY));
            for (int i = 0; i < size; i++) {
                values[i] = 0;
            }
        }

        /** The element that stands for letter 0. */
        int letterBase() {
            return type == CHAR_TYPE ? (int) 'a' : 0;
        }
    }

    /** Measures of a word as a whole. */
    private static final class Statistics {
        static int runs(Word word, int letter, int runLength) {
            if (word.isConstant()) {
                return word.at(0) == letter && word.size() == runLength ? 1 : 0;
            }
            int total = 0;
            for (int i = 0; i < word.size(); i++) {
                boolean begins = word.at(i) == letter && word.around(i - 1) != letter;
                if (begins && runSize(word, i) == runLength) {
                    total++;
                }
            }
            return total;
        }

        private static int runSize(Word word, int position) {
            int size = 1;
            while (size < word.size() && word.around(position + size) == word.at(position)) {
                size++;
            }
            return size;
        }

        static int spread(Word word, int letter, int letterTotal) {
            int sum = 0;
            int least = 0;
            int most = 0;
            for (int i = 0; i < word.size(); i++) {
                sum += word.at(i) == letter ? letterTotal - 1 : -1;
                least = Math.min(least, sum);
                most = Math.max(most, sum);
            }
            return most - least;
        }

        /** 0.0 for a word that has no two different letters: there is nothing to divide by. */
        static double autocorrelation(Word word, int shift) {
            if (word.size() < 1) {
                return 0.0;
            }
            double mean = (double) letterSum(word) / (double) word.size();
            double products = 0.0;
            double squares = 0.0;
            for (int i = 0; i < word.size(); i++) {
                double here = (double) word.at(i) - mean;
                double there = (double) word.around(i + shift) - mean;
                products = products + here * there;
                squares = squares + here * here;
            }
            return squares > 0.0 ? products / squares : 0.0;
        }

        private static int letterSum(Word word) {
            int sum = 0;
            for (int i = 0; i < word.size(); i++) {
                sum += word.at(i);
            }
            return sum;
        }

        /**
         * The bits of 0.0 or of a number whose magnitude is from 2^-1022 to below 2, as that of an
         * autocorrelation is, found by exact doubling: LANGUAGE.md has no call for them.
         */
        static long bitsOf(double number) {
            if (number == 0.0) {
                return 0L;
            }
            double part = number < 0.0 ? -number : number;
            int exponent = 0;
            while (part < 1.0 && exponent > -1022) {
                part = part * 2.0;
                exponent--;
            }
            long sign = number < 0.0 ? 1L << 63 : 0L;
            long fraction = (long) ((part - 1.0) * 4503599627370496.0);
            return sign | ((long) (exponent + 1023) << 52) | fraction;
        }
    }
}
