import java.io.IOException;
import java.nio.charset.StandardCharsets;
import java.nio.file.Files;
import java.nio.file.Path;
import java.util.ArrayList;
import java.util.LinkedHashMap;
import java.util.List;
import java.util.Map;
import java.util.TreeMap;
import java.util.regex.Matcher;
import java.util.regex.Pattern;

/** The document, cut at its headings, so that tests can be held against its own words. */
final class Doc {
    private static final Pattern HEADING = Pattern.compile("Promise (\\d+): (.*)");
    private static final Pattern CONSTANT = Pattern.compile("- `([A-Z_]+) = (-?\\d+)`: (.*)");

    private final Map<Integer, String> promises = new TreeMap<>();
    private final Map<Integer, String> names = new TreeMap<>();
    private final Map<String, String> sections = new LinkedHashMap<>();
    /** What stands under the other headings: it holds for all promises. */
    private final StringBuilder shared = new StringBuilder();

    Doc() throws IOException {
        String text = Files.readString(Path.of("../shared/DOC.md"), StandardCharsets.UTF_8);
        for (String section : text.split("(?m)^## ")) {
            int end = section.indexOf('\n');
            String title = end < 0 ? section.trim() : section.substring(0, end).trim();
            sections.put(title, section.substring(Math.max(end, 0)));
            Matcher heading = HEADING.matcher(title);
            String words = plain(section);
            if (heading.matches()) {
                int promise = Integer.parseInt(heading.group(1));
                promises.put(promise, words);
                names.put(promise, heading.group(2));
            } else {
                shared.append(words).append('\n');
            }
        }
    }

    boolean says(int promise, String words) {
        return promises.getOrDefault(promise, "").contains(plain(words)) || shared.indexOf(plain(words)) >= 0;
    }

    /** The name of the method that a promise is about. */
    String name(int promise) {
        return names.getOrDefault(promise, "");
    }

    /** Whether a promise itself names an error code. */
    boolean names(int promise, String code) {
        return Pattern.compile("\\b" + code + "\\b").matcher(promises.getOrDefault(promise, "")).find();
    }

    /** The lines of the face, as they stand between its braces. */
    List<String> face() {
        List<String> lines = new ArrayList<>();
        for (String line : section("The public face").split("\n")) {
            if (line.startsWith("    ")) {
                lines.add(line.trim());
            }
        }
        return lines;
    }

    /** The error codes under "The constants": for each name its value and what it means. */
    Map<String, String[]> constants() {
        Map<String, String[]> found = new LinkedHashMap<>();
        for (String line : section("Description").split("\n")) {
            Matcher constant = CONSTANT.matcher(line);
            if (constant.matches()) {
                found.put(constant.group(1), new String[] {constant.group(2), constant.group(3)});
            }
        }
        return found;
    }

    /** The heading under which a promise stands. */
    String heading(int promise) {
        return "Promise " + promise + ": " + name(promise);
    }

    /** What stands under a heading. */
    String section(String heading) {
        return sections.getOrDefault(heading, "");
    }

    List<String> headings() {
        return new ArrayList<>(sections.keySet());
    }

    /** The lines of a list under a heading, each as one line without its dash. */
    List<String> items(String heading) {
        List<String> items = new ArrayList<>();
        for (String part : parts(heading)) {
            if (part.startsWith("- ")) {
                items.add(plain(part.substring(2)).trim());
            }
        }
        return items;
    }

    /** The sentences under a heading, cut at semicolons too; a line of a list begins a new one. */
    List<String> sentences(String heading) {
        List<String> sentences = new ArrayList<>();
        for (String part : parts(heading)) {
            String words = plain(part).trim().replaceFirst("^- ", "");
            // Two dots stand for what is left out and end nothing.
            for (String sentence : words.split("(?<=[^.][.;]) ")) {
                if (!sentence.isEmpty()) {
                    sentences.add(sentence);
                }
            }
        }
        return sentences;
    }

    private String[] parts(String heading) {
        return section(heading).replaceAll("(?s)```.*?```", "").split("\n[ \t]*\n|\n(?=- )");
    }

    static String plain(String text) {
        return text.replaceAll("\\s+", " ");
    }
}
