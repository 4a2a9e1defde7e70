import java.lang.management.ManagementFactory;

/** A workbench makes its rows when it is made, and no call makes anything: all runs share one small room. */
public final class RoomTest {
    /** 3,900 elements of at most 4 bytes, and what the machine adds to each object and array. */
    private static final long BENCH_BYTES = 17000;
    private static final int ROUNDS = 200;

    public static void main(String[] args) {
        Due due = new Due();
        DeBruijnWorkbench[] benches = new DeBruijnWorkbench[ROUNDS];
        for (int i = 0; i < 3; i++) {
            everyCall(new DeBruijnWorkbench());
        }
        long before = allocated();
        for (int i = 0; i < ROUNDS; i++) {
            benches[i] = new DeBruijnWorkbench();
        }
        long made = (allocated() - before) / ROUNDS;
        due.that(made <= BENCH_BYTES, "a new object takes " + made + " bytes");
        before = allocated();
        long answers = 0;
        for (int i = 0; i < ROUNDS; i++) {
            answers += everyCall(benches[i]);
        }
        long used = (allocated() - before) / ROUNDS;
        // One int array a round would already be seen.
        due.that(used < 16, "a round of calls makes " + used + " bytes");
        due.that(answers != 0, "the calls were not made");
        due.end();
    }

    private static long allocated() {
        com.sun.management.ThreadMXBean bean = (com.sun.management.ThreadMXBean) ManagementFactory.getThreadMXBean();
        return bean.getThreadAllocatedBytes(Thread.currentThread().getId());
    }

    private static long everyCall(DeBruijnWorkbench x) {
        long sum = x.configure(4, 4) + x.letterCount() + x.order() + x.length() + x.letter(0);
        for (int kind = 0; kind < 4; kind++) {
            sum += x.construct(kind, 63) + x.length() + x.letter(9) + x.blockAt(255) + x.positionOf(255);
        }
        sum += x.save() + x.createTable(0, 0, 256) + x.createTable(1, 1, 256) + x.createTable(0, 1, 256);
        sum += x.exportTable(0, 0) + x.exportTable(1, 0) + x.writeTable(0, 1, 'b') + x.readTable(0, 3) + x.importTable(0, 1);
        sum += x.rotate(-77) + x.reverse() + x.complement() + x.setLetter(3, 3) + x.undo() + x.undoCount() + x.appendLetter(9);
        sum += x.letterAfter(17) + x.occurrences(3) + x.distance(3, 200) + x.linearLength() + x.linearLetter(258);
        sum += x.differentBlocks() + x.missingBlock(0) + x.firstRepeat() + x.isDeBruijn() + x.successorLetter(9);
        sum += x.follow(0, 300) + x.isNecklace(200) + x.necklaceOf(200) + x.rotationCount(17) + x.necklace(69);
        sum += x.lyndonCount(4) + x.lyndonWord(4, 59) + x.appendPattern(1) + x.patternCount() + x.patternPosition(2);
        sum += x.clearPattern() + x.countModulo(999999937) + x.runCount(0, 4) + x.discrepancy(2) + x.autocorrelationBits(5);
        sum += x.appendCommand('x') + x.runCommand() + Due.run(x, "joined:12") + x.firstCut(4) + x.exchange(0, 5, 9, 200);
        sum += x.configure(4, 1) + x.appendLetter(1) + x.appendLetter(2) + x.cut(0, 1) + x.restore();
        return sum;
    }
}
