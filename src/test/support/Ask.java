import java.lang.reflect.Method;
import java.util.ArrayList;
import java.util.Arrays;
import java.util.Comparator;
import java.util.HashSet;
import java.util.List;
import java.util.Map;
import java.util.Set;

/**
 * Runs the boundary tests of a class: its static methods with names like promise08_full, each with
 * the words of the document that it tests. At the end it asks whether every promise was tested, with
 * every error code that it names and with the least and the greatest int for every argument.
 */
final class Ask {
    private static final Map<String, Integer> CODES = Map.ofEntries(Map.entry("BAD_ARGUMENT", -1), Map.entry("NONE", -2),
        Map.entry("EMPTY", -3), Map.entry("FULL", -4), Map.entry("MISMATCH", -5), Map.entry("UNKNOWN_NAME", -6),
        Map.entry("NOTHING_SAVED", -7), Map.entry("CONSTANT", -8), Map.entry("MISSING_TABLE", -11),
        Map.entry("WRONG_TYPE", -12), Map.entry("OUT_OF_BOUNDS", -13), Map.entry("NEGATIVE_LENGTH", -14));
    /** Something stands everywhere here, so that a call that should change nothing is seen if it does. */
    private static final String[] BUSY_BUT_COMMAND = {"configure(2, 3)", "letters(011)", "save()", "configure(3, 2)",
        "letters(02112)", "elements(1 -1)", "createTable(0, 0, 3)", "writeTable(0, 0, 2)", "writeTable(0, 2, 1)",
        "createTable(1, 1, 2)", "writeTable(1, 0, 'b')", "writeTable(1, 1, 'c')"};

    private final Due due;
    private final String test;
    private final Set<String> noted;

    private Ask(Due due, String test, Set<String> noted) {
        this.due = due;
        this.test = test;
        this.noted = noted;
    }

    static void run(Class<?> tests, int first, int last) throws Exception {
        Due due = new Due();
        Doc doc = new Doc();
        Set<String> noted = new HashSet<>();
        Set<Integer> tested = runMethods(tests, due, doc, noted);
        for (int promise = first; promise <= last; promise++) {
            due.that(tested.contains(promise), "promise " + promise + " has no boundary test");
            checkCoverage(due, doc, promise, noted);
        }
        due.end();
    }

    /** Runs tests of sentences that name no boundary: error codes and extremes are not asked for. */
    static void runSentences(Class<?> tests) throws Exception {
        Due due = new Due();
        runMethods(tests, due, new Doc(), new HashSet<>());
        due.end();
    }

    private static Set<Integer> runMethods(Class<?> tests, Due due, Doc doc, Set<String> noted) throws Exception {
        Set<Integer> tested = new HashSet<>();
        Method[] methods = tests.getDeclaredMethods();
        Arrays.sort(methods, Comparator.comparing(Method::getName));
        for (Method method : methods) {
            if (method.getName().startsWith("promise")) {
                int promise = Integer.parseInt(method.getName().substring(7, 9));
                tested.add(promise);
                checkWords(due, doc, promise, method);
                method.setAccessible(true);
                method.invoke(null, new Ask(due, method.getName(), noted));
            }
        }
        return tested;
    }

    private static void checkWords(Due due, Doc doc, int promise, Method method) {
        Says says = method.getAnnotation(Says.class);
        due.that(says != null, method.getName() + " does not say what it tests");
        for (String words : says == null ? new String[0] : says.value()) {
            due.that(doc.says(promise, words), method.getName() + ": the document does not say: " + words);
        }
    }

    private static void checkCoverage(Due due, Doc doc, int promise, Set<String> noted) {
        String name = doc.name(promise);
        for (String code : CODES.keySet()) {
            boolean missing = doc.names(promise, code) && !noted.contains(name + " answers " + code);
            due.that(!missing, "promise " + promise + ": no boundary test has the answer " + code);
        }
        for (Method method : DeBruijnWorkbench.class.getMethods()) {
            for (int i = 0; method.getName().equals(name) && i < method.getParameterCount(); i++) {
                for (String extreme : List.of("MIN", "MAX")) {
                    boolean given = noted.contains(name + " takes " + i + " " + extreme);
                    due.that(given, "promise " + promise + ": no boundary test gives " + extreme + " for argument " + i);
                }
            }
        }
    }

    /** A new workbench after some calls. */
    Scene scene(String... calls) {
        return new Scene(this, Arrays.asList(calls));
    }

    /** Three letters, order 2, sequence 02112, the command "joined:", pattern, tables, edits and snapshot. */
    Scene busy(String... more) {
        List<String> calls = new ArrayList<>(Arrays.asList(BUSY_BUT_COMMAND));
        calls.add("signs(joined:)");
        calls.addAll(Arrays.asList(more));
        return new Scene(this, calls);
    }

    /** The busy scene with another command, or without one. */
    Scene busyWithCommand(String command) {
        List<String> calls = new ArrayList<>(Arrays.asList(BUSY_BUT_COMMAND));
        calls.add("signs(" + command + ")");
        return new Scene(this, calls);
    }

    void that(boolean holds, String complaint) {
        due.that(holds, test + ": " + complaint);
    }

    /** Keeps in mind what a call was given and what it had to answer. */
    void note(String call, String answer) {
        String name = call.substring(0, call.indexOf('('));
        String[] words = call.substring(call.indexOf('(') + 1, call.length() - 1).split(", ");
        noted.add(name + " answers " + answer);
        for (int i = 0; i < words.length; i++) {
            noted.add(name + " takes " + i + " " + words[i]);
        }
    }

    /** A number as it is written in a row: by digits, by a name, as a sign in quotes, or as a double for its bits. */
    static String number(String word) {
        if (CODES.containsKey(word)) {
            return CODES.get(word).toString();
        }
        if (word.equals("MIN")) {
            return String.valueOf(Integer.MIN_VALUE);
        }
        if (word.equals("MAX")) {
            return String.valueOf(Integer.MAX_VALUE);
        }
        if (word.startsWith("'")) {
            return String.valueOf((int) word.charAt(1));
        }
        return word.contains(".") ? String.valueOf(Double.doubleToLongBits(Double.parseDouble(word))) : word;
    }
}
