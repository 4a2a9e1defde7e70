import java.util.List;

/** The examples, as they stand in the document, each line on a new object. */
public final class ExamplesTest {
    /** So many stand there; fewer would mean that they are not read as they are written. */
    private static final int LINES = 6;
    private static final int ROWS = 52;

    public static void main(String[] args) throws Exception {
        Due due = new Due();
        List<String> lines = new Doc().items("Examples");
        int rows = 0;
        for (String line : lines) {
            DeBruijnWorkbench bench = new DeBruijnWorkbench();
            for (String row : line.substring(line.indexOf(": ") + 2).split("; ")) {
                String[] sides = row.split(" -> ");
                String got = Calls.answer(bench, sides[0]);
                due.that(got.equals(sides[1]), line + "\n" + row + ", but answered " + got);
                rows++;
            }
        }
        due.that(lines.size() == LINES && rows == ROWS, "the document has " + lines.size() + " lines of examples with " + rows + " rows");
        due.end();
    }
}
