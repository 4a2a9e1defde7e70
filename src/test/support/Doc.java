import java.io.IOException;
import java.nio.charset.StandardCharsets;
import java.nio.file.Files;
import java.nio.file.Path;
import java.util.Map;
import java.util.TreeMap;
import java.util.regex.Matcher;
import java.util.regex.Pattern;

/** The document, cut at its headings, so that tests can be held against its own words. */
final class Doc {
    private static final Pattern HEADING = Pattern.compile("Promise (\\d+): (.*)");

    private final Map<Integer, String> promises = new TreeMap<>();
    private final Map<Integer, String> names = new TreeMap<>();
    /** What stands under the other headings: it holds for all promises. */
    private final StringBuilder shared = new StringBuilder();

    Doc() throws IOException {
        String text = Files.readString(Path.of("../shared/DOC.md"), StandardCharsets.UTF_8);
        for (String section : text.split("(?m)^## ")) {
            int end = section.indexOf('\n');
            Matcher heading = HEADING.matcher(end < 0 ? section : section.substring(0, end).trim());
            String words = plain(section);
            if (heading.matches()) {
                int promise = Integer.parseInt(heading.group(1));
                promises.put(promise, words);
                names.put(promise, heading.group(2));
            } else {
                shared.append(words).append('\n');
            }
        }
    }

    boolean says(int promise, String words) {
        return promises.getOrDefault(promise, "").contains(plain(words)) || shared.indexOf(plain(words)) >= 0;
    }

    /** The name of the method that a promise is about. */
    String name(int promise) {
        return names.getOrDefault(promise, "");
    }

    /** Whether a promise itself names an error code. */
    boolean names(int promise, String code) {
        return Pattern.compile("\\b" + code + "\\b").matcher(promises.getOrDefault(promise, "")).find();
    }

    private static String plain(String text) {
        return text.replaceAll("\\s+", " ");
    }
}
