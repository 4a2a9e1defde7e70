import java.math.BigInteger;
import java.util.ArrayDeque;
import java.util.ArrayList;
import java.util.Collections;
import java.util.HashMap;
import java.util.HashSet;
import java.util.List;
import java.util.Map;
import java.util.Set;
import java.util.TreeSet;
import java.util.stream.Collectors;
import java.util.stream.IntStream;

/**
 * The document told a second time, with the Java library and with words as texts, slowly and
 * without a thought of the class that is tested: ModelTest compares the two.
 */
final class Model {
    private int k = 2;
    private int n = 3;
    private String s = "";
    private String command = "";
    private List<Integer> pattern = new ArrayList<>();
    private ArrayDeque<String> earlier = new ArrayDeque<>();
    private Object[] saved = null;
    private final Object[] tables = new Object[2];

    public int configure(int letters, int order) {
        if (letters < 2 || letters > 4 || order < 1 || order > 6 || Math.pow(letters, order) > 256) {
            return -1;
        }
        k = letters;
        n = order;
        s = "";
        pattern.clear();
        earlier.clear();
        return words(n).size();
    }

    public int letterCount() {
        return k;
    }

    public int order() {
        return n;
    }

    public int length() {
        return s.length();
    }

    public int letter(int position) {
        return exists(position) ? s.charAt(position) - '0' : -2;
    }

    public int construct(int kind, int parameter) {
        if (kind < 0 || kind > 3 || kind == 3 && (parameter < 0 || parameter >= words(n - 1).size())) {
            return -1;
        }
        edit(kind == 0 ? greedy() : kind == 1 ? lyndon() : kind == 2 ? byNecklaces() : joined(parameter));
        return s.length();
    }

    public int appendCommand(int character) {
        if (character < 33 || character > 126) {
            return -1;
        }
        if (command.length() == 20) {
            return -4;
        }
        command += (char) character;
        return command.length();
    }

    public int runCommand() {
        String[] parts = command.split(":", 2);
        command = "";
        int kind = List.of("greedy", "lyndon", "necklace", "joined").indexOf(parts[0]);
        if (kind < 0) {
            return -6;
        }
        if (parts.length == 2 && !parts[1].matches("[0-9]{1,3}")) {
            return -1;
        }
        return construct(kind, parts.length == 2 ? Integer.parseInt(parts[1]) : 0);
    }

    public int setLetter(int position, int letter) {
        if (!exists(position)) {
            return -2;
        }
        if (letter < 0 || letter >= k) {
            return -1;
        }
        int previous = letter(position);
        edit(s.substring(0, position) + letter + s.substring(position + 1));
        return previous;
    }

    public int appendLetter(int letter) {
        if (letter < 0 || letter >= k) {
            return -1;
        }
        if (s.length() == 256) {
            return -4;
        }
        edit(s + letter);
        return s.length();
    }

    public int rotate(int shift) {
        if (s.isEmpty()) {
            return -3;
        }
        int by = BigInteger.valueOf(shift).mod(BigInteger.valueOf(s.length())).intValue();
        edit(s.substring(by) + s.substring(0, by));
        return letter(0);
    }

    public int reverse() {
        if (s.isEmpty()) {
            return -3;
        }
        String before = s;
        edit(new StringBuilder(s).reverse().toString());
        return s.equals(before) ? 1 : 0;
    }

    public int complement() {
        if (s.isEmpty()) {
            return -3;
        }
        edit(s.chars().mapToObj(c -> "" + (k - 1 - (c - '0'))).collect(Collectors.joining()));
        return letter(0);
    }

    public int cut(int position, int count) {
        if (!exists(position)) {
            return -2;
        }
        if (count < 1 || count > s.length() - 1) {
            return -1;
        }
        if (!from(position, n - 1).equals(from(position + count, n - 1))) {
            return -5;
        }
        edit(from(position + count, s.length() - count));
        return s.length();
    }

    public int exchange(int first, int second, int third, int fourth) {
        if (!exists(first) || !exists(second) || !exists(third) || !exists(fourth)) {
            return -2;
        }
        if (!(first < second && second < third && third < fourth)) {
            return -1;
        }
        if (!from(first, n - 1).equals(from(third, n - 1)) || !from(second, n - 1).equals(from(fourth, n - 1))) {
            return -5;
        }
        String before = s;
        edit(s.substring(0, first) + s.substring(third, fourth) + s.substring(second, third)
            + s.substring(first, second) + s.substring(fourth));
        return s.equals(before) ? 0 : 1;
    }

    public int firstCut(int count) {
        if (s.isEmpty()) {
            return -3;
        }
        if (count < 1 || count > s.length() - 1) {
            return -1;
        }
        return IntStream.range(0, s.length())
            .filter(i -> from(i, n - 1).equals(from(i + count, n - 1))).findFirst().orElse(-2);
    }

    public int blockAt(int position) {
        return exists(position) ? code(blocks().get(position)) : -2;
    }

    public int positionOf(int block) {
        if (!isBlock(block)) {
            return -1;
        }
        int position = blocks().indexOf(words(n).get(block));
        return position < 0 ? -2 : position;
    }

    public int letterAfter(int block) {
        int position = positionOf(block);
        return position < 0 ? position : letter((position + n) % s.length());
    }

    public int occurrences(int block) {
        return isBlock(block) ? Collections.frequency(blocks(), words(n).get(block)) : -1;
    }

    public int distance(int block, int other) {
        if (!isBlock(block) || !isBlock(other)) {
            return -1;
        }
        int a = positionOf(block);
        int b = positionOf(other);
        return a < 0 || b < 0 ? -2 : Math.floorMod(b - a, s.length());
    }

    public int linearLength() {
        return linear().length();
    }

    public int linearLetter(int position) {
        return position >= 0 && position < linear().length() ? linear().charAt(position) - '0' : -2;
    }

    public int differentBlocks() {
        return new HashSet<>(blocks()).size();
    }

    public int missingBlock(int index) {
        List<String> missing = new ArrayList<>(words(n));
        missing.removeAll(blocks());
        return element(missing, index);
    }

    public int firstRepeat() {
        List<String> all = blocks();
        return IntStream.range(0, all.size()).filter(i -> all.indexOf(all.get(i)) < i).findFirst().orElse(-2);
    }

    public int isDeBruijn() {
        List<String> all = blocks();
        Collections.sort(all);
        return all.equals(words(n)) ? 1 : 0;
    }

    public int successorLetter(int block) {
        return isBlock(block) ? next(words(n).get(block)) : -1;
    }

    public int follow(int block, int steps) {
        if (!isBlock(block) || steps < 0 || steps > 300) {
            return -1;
        }
        String at = words(n).get(block);
        for (int i = 0; i < steps; i++) {
            at = at.substring(1) + next(at);
        }
        return code(at);
    }

    public int isNecklace(int block) {
        return isBlock(block) ? isNecklace(words(n).get(block)) ? 1 : 0 : -1;
    }

    public int necklaceOf(int block) {
        return isBlock(block) ? code(Collections.min(rotations(words(n).get(block)))) : -1;
    }

    public int rotationCount(int block) {
        return isBlock(block) ? new HashSet<>(rotations(words(n).get(block))).size() : -1;
    }

    public int necklace(int index) {
        return element(words(n).stream().filter(this::isNecklace).collect(Collectors.toList()), index);
    }

    public int lyndonCount(int length) {
        return length < 1 || length > n ? -1 : lyndonWords(length).size();
    }

    public int lyndonWord(int length, int index) {
        return length < 1 || length > n ? -1 : element(lyndonWords(length), index);
    }

    public int appendPattern(int letter) {
        if (letter < -1 || letter >= k) {
            return -1;
        }
        if (pattern.size() == 8) {
            return -4;
        }
        pattern.add(letter);
        return pattern.size();
    }

    public int clearPattern() {
        int size = pattern.size();
        pattern.clear();
        return size;
    }

    public int patternCount() {
        return matches().size();
    }

    public int patternPosition(int index) {
        return index >= 0 && index < matches().size() ? matches().get(index) : -2;
    }

    public int countModulo(int modulus) {
        if (modulus < 2 || modulus > 1000000000) {
            return -1;
        }
        int tails = words(n - 1).size();
        BigInteger factorial = BigInteger.valueOf(k == 2 ? 1 : k == 3 ? 2 : 6);
        return factorial.pow(tails).multiply(BigInteger.valueOf(k).pow(tails - n)).mod(BigInteger.valueOf(modulus)).intValue();
    }

    public int runCount(int letter, int runLength) {
        if (letter < 0 || letter >= k || runLength < 1 || runLength > 256) {
            return -1;
        }
        if (s.isEmpty()) {
            return 0;
        }
        // Begun behind a change of letters, no run goes round the end.
        int turn = IntStream.range(0, s.length()).filter(i -> !from(i, 1).equals(from(i + s.length() - 1, 1))).findFirst().orElse(0);
        int count = 0;
        for (String run : from(turn, s.length()).split("(?<=(.))(?!\\1)")) {
            count += run.length() == runLength && run.charAt(0) - '0' == letter ? 1 : 0;
        }
        return count;
    }

    public int discrepancy(int letter) {
        if (letter < 0 || letter >= k) {
            return -1;
        }
        TreeSet<Integer> values = new TreeSet<>();
        for (int i = 0; i <= s.length(); i++) {
            values.add(k * (int) s.substring(0, i).chars().filter(c -> c - '0' == letter).count() - i);
        }
        return values.last() - values.first();
    }

    public long autocorrelationBits(int shift) {
        if (shift < 0 || shift > 256) {
            return -1;
        }
        if (s.isEmpty()) {
            return -3;
        }
        if (s.chars().distinct().count() == 1) {
            return -8;
        }
        int length = s.length();
        double m = (double) s.chars().map(c -> c - '0').sum() / length;
        double a = 0.0;
        double b = 0.0;
        for (int i = 0; i < length; i++) {
            a += (letter(i) - m) * (letter((i + shift) % length) - m);
            b += (letter(i) - m) * (letter(i) - m);
        }
        return Double.doubleToLongBits(a / b);
    }

    public int undo() {
        if (earlier.isEmpty()) {
            return -7;
        }
        s = earlier.pop();
        return s.length();
    }

    public int undoCount() {
        return earlier.size();
    }

    public int save() {
        saved = new Object[] {k, n, s};
        return s.length();
    }

    public int restore() {
        if (saved == null) {
            return -7;
        }
        k = (Integer) saved[0];
        n = (Integer) saved[1];
        s = (String) saved[2];
        pattern.clear();
        earlier.clear();
        return s.length();
    }

    public int createTable(int table, int type, int length) {
        if (table < 0 || table > 1 || type < 0 || type > 1 || length > 256) {
            return -1;
        }
        if (length < 0) {
            return -14;
        }
        tables[table] = type == 0 ? new byte[length] : new char[length];
        return 1;
    }

    public int writeTable(int table, int index, int value) {
        if (table < 0 || table > 1) {
            return -1;
        }
        if (tables[table] == null) {
            return -11;
        }
        try {
            if (tables[table] instanceof byte[]) {
                ((byte[]) tables[table])[index] = (byte) value;
            } else {
                ((char[]) tables[table])[index] = (char) value;
            }
            return 1;
        } catch (ArrayIndexOutOfBoundsException e) {
            return -13;
        }
    }

    public int readTable(int table, int index) {
        if (table < 0 || table > 1) {
            return -1;
        }
        if (tables[table] == null) {
            return -11;
        }
        try {
            return tables[table] instanceof byte[] ? ((byte[]) tables[table])[index] : ((char[]) tables[table])[index];
        } catch (ArrayIndexOutOfBoundsException e) {
            return -13;
        }
    }

    public int exportTable(int table, int from) {
        if (table < 0 || table > 1) {
            return -1;
        }
        if (tables[table] == null) {
            return -11;
        }
        for (int i = 0; i < s.length(); i++) {
            int element = tables[table] instanceof byte[] ? letter(i) : "abcd".charAt(letter(i));
            if (writeTable(table, from + i, element) != 1) {
                return -13;
            }
        }
        return s.length();
    }

    public int importTable(int table, int type) {
        if (table < 0 || table > 1 || type < 0 || type > 1) {
            return -1;
        }
        if (tables[table] == null) {
            return -11;
        }
        if (tables[table] instanceof byte[] != (type == 0)) {
            return -12;
        }
        String letters = "";
        for (int i = 0; readable(table, i); i++) {
            int letter = type == 0 ? readTable(table, i) : "abcd".indexOf(readTable(table, i));
            if (letter < 0 || letter >= k) {
                return -5;
            }
            letters += letter;
        }
        edit(letters);
        return s.length();
    }

    private boolean readable(int table, int index) {
        return index < java.lang.reflect.Array.getLength(tables[table]);
    }

    private void edit(String changed) {
        earlier.push(s);
        if (earlier.size() > 6) {
            earlier.removeLast();
        }
        s = changed;
    }

    private boolean exists(int position) {
        return position >= 0 && position < s.length();
    }

    private boolean isBlock(int block) {
        return block >= 0 && block < words(n).size();
    }

    /** Letters of the sequence from a position on, round and round. */
    private String from(int position, int count) {
        if (s.isEmpty()) {
            return "";
        }
        String turns = s.repeat((position + count) / s.length() + 1);
        return turns.substring(position, position + count);
    }

    private String linear() {
        return s.isEmpty() ? "" : from(0, s.length() + n - 1);
    }

    private List<String> blocks() {
        List<String> all = new ArrayList<>();
        for (int i = 0; i < s.length(); i++) {
            all.add(from(i, n));
        }
        return all;
    }

    private static final Map<Integer, List<String>> WORDS = new HashMap<>();

    /** All words of a length, ascending; the place of a word is its code. */
    private List<String> words(int length) {
        return WORDS.computeIfAbsent(10 * k + length, key -> makeWords(length));
    }

    private List<String> makeWords(int length) {
        List<String> all = List.of("");
        for (int i = 0; i < length; i++) {
            List<String> longer = new ArrayList<>();
            for (String word : all) {
                for (int letter = 0; letter < k; letter++) {
                    longer.add(word + letter);
                }
            }
            all = longer;
        }
        return all;
    }

    private int code(String word) {
        return Integer.parseInt(word, k);
    }

    private int element(List<String> list, int index) {
        return index >= 0 && index < list.size() ? code(list.get(index)) : -2;
    }

    private static List<String> rotations(String word) {
        List<String> all = new ArrayList<>();
        for (int i = 0; i < word.length(); i++) {
            all.add(word.substring(i) + word.substring(0, i));
        }
        return all;
    }

    private boolean isNecklace(String word) {
        return Collections.min(rotations(word)).equals(word);
    }

    private List<String> lyndonWords(int length) {
        return words(length).stream()
            .filter(w -> isNecklace(w) && new HashSet<>(rotations(w)).size() == length).collect(Collectors.toList());
    }

    private List<Integer> matches() {
        return IntStream.range(0, s.length()).filter(this::matchesAt).boxed().collect(Collectors.toList());
    }

    private boolean matchesAt(int position) {
        String here = from(position, pattern.size());
        return IntStream.range(0, pattern.size()).allMatch(j -> pattern.get(j) == -1 || pattern.get(j) == here.charAt(j) - '0');
    }

    private String greedy() {
        String word = "0".repeat(n - 1);
        Set<String> formed = new HashSet<>();
        boolean grown = true;
        while (grown) {
            grown = false;
            for (int letter = k - 1; letter >= 0 && !grown; letter--) {
                String longer = word + letter;
                if (formed.add(longer.substring(longer.length() - n))) {
                    word = longer;
                    grown = true;
                }
            }
        }
        return word.substring(n - 1);
    }

    private String lyndon() {
        TreeSet<String> sorted = new TreeSet<>();
        for (int length = 1; length <= n; length++) {
            if (n % length == 0) {
                sorted.addAll(lyndonWords(length));
            }
        }
        return String.join("", sorted);
    }

    private int next(String block) {
        int a = block.charAt(0) - '0';
        String u = block.substring(1);
        int t = IntStream.range(1, k).filter(letter -> isNecklace(u + letter)).findFirst().orElse(-1);
        if (t == -1 || a < t - 1) {
            return a;
        }
        return a == k - 1 ? t - 1 : a + 1;
    }

    private String byNecklaces() {
        String block = "0".repeat(n);
        String made = "";
        for (int i = 0; i < words(n).size(); i++) {
            int x = next(block);
            made += x;
            block = block.substring(1) + x;
        }
        return made;
    }

    private String joined(int p) {
        Map<String, String> successor = new HashMap<>();
        for (String block : words(n)) {
            successor.put(block, block.substring(1) + block.charAt(0));
        }
        List<String> tails = words(n - 1);
        for (int i = 0; i < tails.size(); i++) {
            String u = tails.get((p + i) % tails.size());
            for (int x = 0; x <= k - 2; x++) {
                String one = x + u;
                String other = (x + 1) + u;
                if (!cycle(successor, one).contains(other)) {
                    String kept = successor.get(one);
                    successor.put(one, successor.get(other));
                    successor.put(other, kept);
                }
            }
        }
        return cycle(successor, "0".repeat(n)).stream().map(b -> b.substring(0, 1)).collect(Collectors.joining());
    }

    private static List<String> cycle(Map<String, String> successor, String start) {
        List<String> all = new ArrayList<>();
        String at = start;
        do {
            all.add(at);
            at = successor.get(at);
        } while (!at.equals(start));
        return all;
    }
}
