import java.lang.reflect.Method;
import java.util.Arrays;

/** The document's examples, word for word, and those of README.md, each run on a new object. */
public final class ExamplesTest {
    private static final String[] RUNS = {
        "construct(1, 0) -> 8; letter(0) -> 0; letter(3) -> 1; letter(7) -> 1; positionOf(5) -> 3; "
            + "letterAfter(7) -> 0; isDeBruijn() -> 1",
        "construct(0, 0) -> 8; letter(0) -> 1; letter(3) -> 0; letter(7) -> 0; blockAt(6) -> 1; "
            + "construct(3, 2) -> 8; letter(3) -> 1; letter(7) -> 1",
        "successorLetter(0) -> 1; successorLetter(4) -> 0; successorLetter(7) -> 0; follow(0, 3) -> 7; "
            + "necklaceOf(6) -> 3; rotationCount(7) -> 1; lyndonCount(3) -> 2; countModulo(100) -> 2",
        "construct(1, 0) -> 8; firstCut(3) -> -2; cut(1, 3) -> -5; length() -> 8; differentBlocks() -> 8; "
            + "missingBlock(0) -> -2; undo() -> 0",
        "appendLetter(0) -> 1; appendLetter(0) -> 2; runCount(0, 2) -> 1; autocorrelationBits(0) -> -8; "
            + "appendLetter(1) -> 3; runCount(0, 2) -> 1; autocorrelationBits(0) -> 4607182418800017408; blockAt(2) -> 4",
        "appendCommand(106) -> 1; appendCommand(111) -> 2; appendCommand(105) -> 3; appendCommand(110) -> 4; "
            + "appendCommand(101) -> 5; appendCommand(100) -> 6; appendCommand(58) -> 7; appendCommand(52) -> 8; "
            + "runCommand() -> -1; runCommand() -> -6; letter(0) -> -2; rotate(1) -> -3; setLetter(0, 0) -> -2; "
            + "cut(0, 1) -> -2",
        "configure(3, 2) -> 9; construct(1, 0) -> 9; positionOf(4) -> 5; rotate(-1) -> 2; undo() -> 9",
    };

    public static void main(String[] args) throws Exception {
        Due due = new Due();
        for (String run : RUNS) {
            DeBruijnWorkbench bench = new DeBruijnWorkbench();
            for (String row : run.split("; ")) {
                String[] sides = row.split(" -> ");
                String got = answer(bench, sides[0]);
                due.that(got.equals(sides[1]), row + ", but answered " + got);
            }
        }
        due.end();
    }

    private static String answer(DeBruijnWorkbench bench, String call) throws Exception {
        int open = call.indexOf('(');
        String inside = call.substring(open + 1, call.length() - 1);
        String[] words = inside.isEmpty() ? new String[0] : inside.split(", ");
        Object[] numbers = Arrays.stream(words).map(Integer::valueOf).toArray();
        Class<?>[] types = new Class<?>[words.length];
        Arrays.fill(types, int.class);
        Method method = DeBruijnWorkbench.class.getMethod(call.substring(0, open), types);
        return method.invoke(bench, numbers).toString();
    }
}
