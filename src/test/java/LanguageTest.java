import java.io.IOException;
import java.lang.reflect.Constructor;
import java.lang.reflect.Field;
import java.lang.reflect.Method;
import java.lang.reflect.Modifier;
import java.nio.charset.StandardCharsets;
import java.nio.file.Files;
import java.nio.file.Path;
import java.util.ArrayList;
import java.util.Arrays;
import java.util.List;
import java.util.Set;
import java.util.TreeSet;
import java.util.regex.Matcher;
import java.util.regex.Pattern;
import java.util.stream.Collectors;

/** The face of the document, and the rules of LANGUAGE.md that are seen in the compiled class and in the words of its source. */
public final class LanguageTest {
    private static final Pattern CONSTANT = Pattern.compile("public static final int ([A-Z_]+) = (-?\\d+);");
    private static final Pattern METHOD = Pattern.compile("public (int|long) (\\w+)\\((.*)\\);");
    private static final int CONSTANTS = 12;
    private static final int METHODS = 52;
    private static final String[] FORBIDDEN = {"\\bimport\\b", "\\bpackage\\b", "\\btry\\b", "\\bcatch\\b", "\\bfinally\\b",
        "\\bthrow\\b", "\\bsynchronized\\b", "\\bassert\\b", "->", "::", "\\bDouble\\b", "\\bFloat\\b", "\\bSystem\\b(?!\\.arraycopy)",
        "\\bObject\\b", "\\w+Exact\\b", "\\bprotected\\b", "\\bstatic \\{", "\\bnew \\w+\\(\\) \\{", "\\bjava\\b"};

    private static final Due due = new Due();
    /** The face as the document has it: constants as NAME=value, methods as "int name(int first, int second)". */
    private static final Set<String> dueConstants = new TreeSet<>();
    private static final List<String> dueMethods = new ArrayList<>();
    private static final Set<String> dueNames = new TreeSet<>();

    public static void main(String[] args) throws Exception {
        Doc doc = new Doc();
        readFace(doc);
        signatures(doc);
        face();
        constants(doc);
        members(DeBruijnWorkbench.class);
        Class<?>[] inside = DeBruijnWorkbench.class.getDeclaredClasses();
        due.that(inside.length + 1 <= 12, "there are " + (inside.length + 1) + " classes");
        for (Class<?> one : inside) {
            due.that(Modifier.isStatic(one.getModifiers()), one + " is not static");
            due.that(!Modifier.isPublic(one.getModifiers()), one + " is public");
            members(one);
        }
        source();
        due.end();
    }

    private static void readFace(Doc doc) {
        for (String line : doc.face()) {
            Matcher constant = CONSTANT.matcher(line);
            Matcher method = METHOD.matcher(line);
            if (constant.matches()) {
                dueConstants.add(constant.group(1) + "=" + constant.group(2));
            } else if (method.matches()) {
                dueMethods.add(line.substring("public ".length(), line.length() - 1));
                dueNames.add(method.group(2));
            } else {
                due.that(line.equals("public DeBruijnWorkbench();"), "the face has another line: " + line);
            }
        }
        due.that(dueConstants.size() == CONSTANTS && dueMethods.size() == METHODS && dueNames.size() == METHODS,
            "the face has " + dueConstants.size() + " constants and " + dueMethods.size() + " methods");
    }

    /** Each promise behind the first has the signature of the next method of the face, and tells its arguments. */
    private static void signatures(Doc doc) {
        for (int promise = 2; promise <= Due.PROMISES; promise++) {
            String signature = dueMethods.get(promise - 2);
            String section = doc.section(doc.heading(promise));
            due.that(section.contains("\n`" + signature + "`\n"), "promise " + promise + " is not about " + signature);
            List<String> told = new ArrayList<>();
            for (String item : doc.items(doc.heading(promise))) {
                told.add("int " + item.substring(1, item.indexOf('`', 1)));
            }
            due.that(signature.endsWith("(" + String.join(", ", told) + ")"), "promise " + promise + " tells the arguments " + told);
        }
    }

    private static void face() throws IOException {
        Class<?> face = DeBruijnWorkbench.class;
        due.that(Modifier.isPublic(face.getModifiers()) && Modifier.isFinal(face.getModifiers()), "the class is not public and final");
        Constructor<?>[] constructors = face.getDeclaredConstructors();
        due.that(constructors.length == 1 && Modifier.isPublic(constructors[0].getModifiers())
            && constructors[0].getParameterCount() == 0, "the constructors are others");
        Set<String> found = new TreeSet<>();
        for (Method method : face.getDeclaredMethods()) {
            if (!Modifier.isPrivate(method.getModifiers())) {
                due.that(method.getModifiers() == Modifier.PUBLIC, method + " is not for the face");
                String types = Arrays.stream(method.getParameterTypes()).map(Class::getName).collect(Collectors.joining(", "));
                found.add(method.getReturnType() + " " + method.getName() + "(" + types + ")");
            }
        }
        Set<String> asked = new TreeSet<>();
        String source = text();
        for (String method : dueMethods) {
            asked.add(method.replaceAll("int \\w+(?=[,)])", "int"));
            due.that(source.contains("\n    public " + method + " {\n"), "the source does not hold " + method);
        }
        due.that(found.equals(asked), "the face is " + found);
    }

    private static void constants(Doc doc) throws IllegalAccessException {
        Set<String> found = new TreeSet<>();
        for (Field field : DeBruijnWorkbench.class.getDeclaredFields()) {
            if (!Modifier.isPrivate(field.getModifiers())) {
                due.that(field.getModifiers() == (Modifier.PUBLIC | Modifier.STATIC | Modifier.FINAL) && field.getType() == int.class,
                    field + " is not for the face");
                found.add(field.getName() + "=" + field.getInt(null));
            }
        }
        due.that(found.equals(dueConstants), "the constants are " + found);
        Set<String> told = new TreeSet<>();
        doc.constants().forEach((name, words) -> told.add(name + "=" + words[0]));
        due.that(told.equals(dueConstants), "the document tells the constants " + told);
    }

    private static void members(Class<?> owner) {
        for (Method method : owner.getDeclaredMethods()) {
            boolean own = owner != DeBruijnWorkbench.class || Modifier.isPrivate(method.getModifiers());
            due.that(!own || !dueNames.contains(method.getName()), method + " bears the name of a call of the face");
            due.that(method.getParameterCount() <= 7, method + " takes more than seven parameters");
        }
        int fields = 0;
        for (Field field : owner.getDeclaredFields()) {
            boolean constant = Modifier.isStatic(field.getModifiers());
            due.that(!constant || Modifier.isFinal(field.getModifiers()), field + " is static and not final");
            due.that(!constant || field.getType() == int.class, field + " is a constant of another type");
            fields += constant ? 0 : 1;
        }
        due.that(fields <= 20, owner + " has " + fields + " fields");
    }

    private static void source() throws IOException {
        String text = text();
        due.that(text.chars().allMatch(c -> c < 127), "the source has a sign above 126");
        String code = text.replaceAll("(?s)/\\*.*?\\*/", "").replaceAll("//[^\n]*", "");
        for (String word : FORBIDDEN) {
            due.that(!Pattern.compile(word).matcher(code).find(), "the source holds " + word);
        }
    }

    private static String text() throws IOException {
        return Files.readString(Path.of("src/main/java/DeBruijnWorkbench.java"), StandardCharsets.UTF_8);
    }
}
