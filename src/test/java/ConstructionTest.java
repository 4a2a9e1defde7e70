/** Every alphabet, order, kind and parameter, and every block and word, against the model. */
public final class ConstructionTest {
    private static final Due due = new Due();

    public static void main(String[] args) {
        for (int letters = 2; letters <= 4; letters++) {
            for (int order = 1; order <= 6; order++) {
                DeBruijnWorkbench bench = new DeBruijnWorkbench();
                Model model = new Model();
                int blocks = model.configure(letters, order);
                due.is(2, "configure(" + letters + ", " + order + ")", bench.configure(letters, order), blocks);
                if (blocks > 0) {
                    constructions(bench, model, blocks / letters);
                    necklaces(bench, model, blocks);
                    lyndonWords(bench, model, order);
                }
            }
        }
        due.end();
    }

    private static void constructions(DeBruijnWorkbench bench, Model model, int tails) {
        for (int kind = 0; kind <= 3; kind++) {
            for (int p = -1; p <= tails; p++) {
                due.is(7, "construct(" + kind + ", " + p + ")", bench.construct(kind, p), model.construct(kind, p));
                StringBuilder want = new StringBuilder();
                for (int i = 0; i < model.length(); i++) {
                    want.append(model.letter(i));
                }
                due.sequence(7, bench, want.toString());
            }
        }
    }

    private static void necklaces(DeBruijnWorkbench bench, Model model, int blocks) {
        for (int i = -1; i <= blocks; i++) {
            due.is(29, "successorLetter(" + i + ")", bench.successorLetter(i), model.successorLetter(i));
            due.is(30, "follow(" + i + ", 300)", bench.follow(i, 300), model.follow(i, 300));
            due.is(31, "isNecklace(" + i + ")", bench.isNecklace(i), model.isNecklace(i));
            due.is(32, "necklaceOf(" + i + ")", bench.necklaceOf(i), model.necklaceOf(i));
            due.is(33, "rotationCount(" + i + ")", bench.rotationCount(i), model.rotationCount(i));
            due.is(34, "necklace(" + i + ")", bench.necklace(i), model.necklace(i));
            due.is(41, "countModulo(" + i + ")", bench.countModulo(i), model.countModulo(i));
        }
    }

    private static void lyndonWords(DeBruijnWorkbench bench, Model model, int order) {
        for (int length = -1; length <= order + 1; length++) {
            due.is(35, "lyndonCount(" + length + ")", bench.lyndonCount(length), model.lyndonCount(length));
            for (int i = -1; i <= 61; i++) {
                due.is(36, "lyndonWord(" + length + ", " + i + ")", bench.lyndonWord(length, i), model.lyndonWord(length, i));
            }
        }
    }
}
