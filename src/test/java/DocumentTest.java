import java.lang.reflect.Method;
import java.util.ArrayList;
import java.util.Arrays;
import java.util.HashSet;
import java.util.List;
import java.util.Set;

/** Every sentence of the document has a test that quotes it, or stands here as one that asks for nothing. */
public final class DocumentTest {
    private static final Class<?>[] TESTS = {Boundary01to17Test.class, Boundary18to36Test.class, Boundary37to53Test.class,
        SentenceTest.class};
    /** Titles, and sentences that leave something free or only point to others. */
    private static final Set<String> ASKS_NOTHING = Set.of("Letters and blocks.", "Sequence.", "Necklaces.", "Constructions.",
        "Kind 0 (greedy).", "Kind 1 (Lyndon).", "Kind 2 (necklace).", "Kind 3 (joined).", "Names.", "Pattern.", "Edits.", "Tables.",
        "Errors.", "In doubt.", "The constants:", "what later calls answer is free.",
        "The constructor and the methods follow, a promise each: the signature, then what it does.");
    /** Headings whose words are tested elsewhere or promise nothing: the title, LanguageTest, and what is left free. */
    private static final Set<String> OTHER_HEADINGS = Set.of("# DeBruijnWorkbench", "The public face", "Not promised");

    private final Due due = new Due();
    private final Doc doc = new Doc();
    private final List<String> shared = new ArrayList<>();
    private final List<List<String>> quotes = new ArrayList<>();

    private DocumentTest() throws Exception {
        for (int promise = 0; promise <= Due.PROMISES; promise++) {
            quotes.add(new ArrayList<>());
        }
        for (Class<?> tests : TESTS) {
            for (Method method : tests.getDeclaredMethods()) {
                Says says = method.getAnnotation(Says.class);
                for (String words : says == null ? new String[0] : says.value()) {
                    quotes.get(Integer.parseInt(method.getName().substring(7, 9))).add(words);
                    shared.add(words);
                }
            }
        }
    }

    public static void main(String[] args) throws Exception {
        new DocumentTest().run();
    }

    private void run() {
        Set<String> left = new HashSet<>(doc.headings());
        left.removeAll(OTHER_HEADINGS);
        for (int promise = 1; promise <= Due.PROMISES; promise++) {
            String heading = doc.heading(promise);
            due.that(left.remove(heading), "there is no heading " + heading);
            check(heading, quotes.get(promise));
        }
        for (String heading : left) {
            check(heading, shared);
        }
        due.end();
    }

    private void check(String heading, List<String> said) {
        List<String> sentences = doc.sentences(heading);
        if (heading.equals("Examples")) {
            // ExamplesTest runs them; only the paragraph behind them is made of sentences.
            sentences.removeIf(s -> s.contains(" -> "));
        }
        due.that(!sentences.isEmpty(), heading + ": no sentence was found");
        for (String sentence : sentences) {
            due.that(isTested(sentence, said), heading + ": no test says: " + sentence);
        }
    }

    private boolean isTested(String sentence, List<String> said) {
        String bare = sentence.replaceFirst("[.;]$", "").replaceFirst("^`[a-zA-Z]+`: ", "");
        // A signature is compared by LanguageTest; that a bare error code was due is asked by Ask.
        if (ASKS_NOTHING.contains(sentence) || bare.matches("`[^`]*\\)`|[A-Z]+(_[A-Z]+)*")) {
            return true;
        }
        boolean[] quoted = new boolean[bare.length()];
        for (String words : said) {
            mark(quoted, bare, Doc.plain(words).replaceFirst("[.;]$", ""));
        }
        for (int i = 0; i < quoted.length; i++) {
            if (!quoted[i] && Character.isLetterOrDigit(bare.charAt(i))) {
                return false;
            }
        }
        return true;
    }

    private static void mark(boolean[] quoted, String sentence, String words) {
        if (words.contains(sentence)) {
            Arrays.fill(quoted, true);
        }
        for (int at = sentence.indexOf(words); at >= 0; at = sentence.indexOf(words, at + 1)) {
            Arrays.fill(quoted, at, at + words.length(), true);
        }
    }
}
