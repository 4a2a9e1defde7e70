/** Compares answers with those that are due, prints the wrong ones and ends the test. */
final class Due {
    static final int PROMISES = 53;

    private final int[] asked = new int[PROMISES + 1];
    private int wrong = 0;
    private int total = 0;

    /** An answer that a promise fixes. */
    void is(int promise, String call, long got, long want) {
        asked[promise]++;
        that(got == want, "promise " + promise + ": " + call + " answered " + got + ", due is " + want);
    }

    /** The whole sequence, written as its letters one after the other. */
    void sequence(int promise, DeBruijnWorkbench bench, String want) {
        asked[promise]++;
        String got = letters(bench);
        that(got.equals(want), "promise " + promise + ": the sequence is " + got + ", due is " + want);
    }

    void that(boolean holds, String complaint) {
        total++;
        if (!holds) {
            wrong++;
            System.out.println(complaint);
        }
    }

    boolean isWrong() {
        return wrong > 0;
    }

    void everyPromiseAsked() {
        for (int promise = 1; promise <= PROMISES; promise++) {
            that(asked[promise] > 0, "promise " + promise + " has no test");
        }
    }

    void end() {
        System.out.println(total + " answers, " + wrong + " of them wrong");
        if (wrong > 0) {
            System.exit(1);
        }
    }

    static String letters(DeBruijnWorkbench bench) {
        StringBuilder text = new StringBuilder();
        for (int i = 0; i < bench.length(); i++) {
            text.append(bench.letter(i));
        }
        return text.toString();
    }

    /** A workbench whose sequence is written as its letters one after the other. */
    static DeBruijnWorkbench bench(int letters, int order, String sequence) {
        DeBruijnWorkbench bench = new DeBruijnWorkbench();
        bench.configure(letters, order);
        for (int i = 0; i < sequence.length(); i++) {
            bench.appendLetter(sequence.charAt(i) - '0');
        }
        return bench;
    }

    static int run(DeBruijnWorkbench bench, String command) {
        for (int i = 0; i < command.length(); i++) {
            bench.appendCommand(command.charAt(i));
        }
        return bench.runCommand();
    }
}
