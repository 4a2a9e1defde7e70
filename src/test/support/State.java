/**
 * Tells the whole state of a workbench by its answers: alphabet, order, sequence, pattern, tables,
 * earlier sequences, command and snapshot. The workbench is of no further use then.
 */
final class State {
    private final DeBruijnWorkbench bench;
    private final StringBuilder text = new StringBuilder();

    private State(DeBruijnWorkbench bench) {
        this.bench = bench;
    }

    static String of(DeBruijnWorkbench bench) {
        State state = new State(bench);
        state.tellSequence();
        state.tellMatches();
        state.tellElements(0);
        state.tellElements(1);
        state.tellEarlier();
        bench.construct(1, 0);
        state.tellMatches();
        state.tellCommand();
        state.tell("pattern of", bench.clearPattern());
        state.tell("restored", bench.restore());
        state.tellSequence();
        for (int table = 0; table < 2; table++) {
            state.tell("as bytes", bench.importTable(table, 0));
            state.tell("as chars", bench.importTable(table, 1));
        }
        return state.text.toString();
    }

    private void tell(String what, Object value) {
        text.append(what).append(' ').append(value).append("; ");
    }

    private void tellSequence() {
        tell("letters", bench.letterCount());
        tell("order", bench.order());
        tell("sequence", Due.letters(bench));
    }

    private void tellMatches() {
        int count = bench.patternCount();
        for (int i = 0; i < count; i++) {
            tell("match at", bench.patternPosition(i));
        }
    }

    /** An element may have the value of an error code, so the answer to a write tells where the table ends. */
    private void tellElements(int table) {
        boolean more = true;
        for (int i = 0; more; i++) {
            int element = bench.readTable(table, i);
            more = bench.writeTable(table, i, 200) == 1;
            tell("table " + table, element);
        }
    }

    private void tellEarlier() {
        int count = bench.undoCount();
        tell("earlier", count);
        for (int i = 0; i < count; i++) {
            bench.undo();
            tell("before", Due.letters(bench));
        }
    }

    /** A command that ends with a colon, as that of the busy scene, becomes a whole one. */
    private void tellCommand() {
        tell("command of", bench.appendCommand('1'));
        tell("command", bench.runCommand());
        tell("sequence", Due.letters(bench));
    }
}
