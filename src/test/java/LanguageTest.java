import java.io.IOException;
import java.lang.reflect.Constructor;
import java.lang.reflect.Field;
import java.lang.reflect.Method;
import java.lang.reflect.Modifier;
import java.nio.charset.StandardCharsets;
import java.nio.file.Files;
import java.nio.file.Path;
import java.util.Arrays;
import java.util.List;
import java.util.TreeSet;
import java.util.regex.Pattern;

/** The rules of LANGUAGE.md that can be seen from the compiled class and from the words of its source. */
public final class LanguageTest {
    private static final String FACE = "configure/2 letterCount/0 order/0 length/0 letter/1 construct/2 appendCommand/1 "
        + "runCommand/0 setLetter/2 appendLetter/1 rotate/1 reverse/0 complement/0 cut/2 exchange/4 firstCut/1 blockAt/1 "
        + "positionOf/1 letterAfter/1 occurrences/1 distance/2 linearLength/0 linearLetter/1 differentBlocks/0 "
        + "missingBlock/1 firstRepeat/0 isDeBruijn/0 successorLetter/1 follow/2 isNecklace/1 necklaceOf/1 rotationCount/1 "
        + "necklace/1 lyndonCount/1 lyndonWord/2 appendPattern/1 clearPattern/0 patternCount/0 patternPosition/1 "
        + "countModulo/1 runCount/2 discrepancy/1 autocorrelationBits/1 undo/0 undoCount/0 save/0 restore/0 createTable/3 "
        + "writeTable/3 readTable/2 exportTable/2 importTable/2";
    private static final String CONSTANTS = "BAD_ARGUMENT=-1 NONE=-2 EMPTY=-3 FULL=-4 MISMATCH=-5 UNKNOWN_NAME=-6 "
        + "NOTHING_SAVED=-7 CONSTANT=-8 MISSING_TABLE=-11 WRONG_TYPE=-12 OUT_OF_BOUNDS=-13 NEGATIVE_LENGTH=-14";
    private static final String[] FORBIDDEN = {"\\bimport\\b", "\\bpackage\\b", "\\btry\\b", "\\bcatch\\b", "\\bfinally\\b",
        "\\bthrow\\b", "\\bsynchronized\\b", "\\bassert\\b", "->", "::", "\\bDouble\\b", "\\bFloat\\b", "\\bSystem\\b(?!\\.arraycopy)",
        "\\bObject\\b", "\\w+Exact\\b", "\\bprotected\\b", "\\bstatic \\{", "\\bnew \\w+\\(\\) \\{", "\\bjava\\b"};

    private static final Due due = new Due();

    public static void main(String[] args) throws Exception {
        face();
        constants();
        members(DeBruijnWorkbench.class);
        Class<?>[] inside = DeBruijnWorkbench.class.getDeclaredClasses();
        due.that(inside.length + 1 <= 12, "there are " + (inside.length + 1) + " classes");
        for (Class<?> one : inside) {
            due.that(Modifier.isStatic(one.getModifiers()), one + " is not static");
            due.that(!Modifier.isPublic(one.getModifiers()), one + " is public");
            members(one);
        }
        source();
        due.end();
    }

    private static void face() {
        Class<?> face = DeBruijnWorkbench.class;
        due.that(Modifier.isPublic(face.getModifiers()) && Modifier.isFinal(face.getModifiers()), "the class is not public and final");
        Constructor<?>[] constructors = face.getDeclaredConstructors();
        due.that(constructors.length == 1 && Modifier.isPublic(constructors[0].getModifiers())
            && constructors[0].getParameterCount() == 0, "the constructors are others");
        TreeSet<String> found = new TreeSet<>();
        for (Method method : face.getDeclaredMethods()) {
            if (Modifier.isPrivate(method.getModifiers())) {
                continue;
            }
            due.that(Modifier.isPublic(method.getModifiers()) && !Modifier.isStatic(method.getModifiers()), method + " is not for the face");
            Class<?> result = method.getName().equals("autocorrelationBits") ? long.class : int.class;
            due.that(method.getReturnType() == result, method + " has another result");
            due.that(Arrays.stream(method.getParameterTypes()).allMatch(t -> t == int.class), method + " has other parameters");
            found.add(method.getName() + "/" + method.getParameterCount());
        }
        due.that(found.equals(new TreeSet<>(List.of(FACE.split(" ")))), "the face is " + found);
    }

    private static void constants() throws IllegalAccessException {
        TreeSet<String> found = new TreeSet<>();
        for (Field field : DeBruijnWorkbench.class.getDeclaredFields()) {
            if (!Modifier.isPrivate(field.getModifiers())) {
                due.that(Modifier.isPublic(field.getModifiers()) && field.getType() == int.class, field + " is not for the face");
                found.add(field.getName() + "=" + field.getInt(null));
            }
        }
        due.that(found.equals(new TreeSet<>(List.of(CONSTANTS.split(" ")))), "the constants are " + found);
    }

    private static void members(Class<?> owner) {
        TreeSet<String> names = new TreeSet<>();
        for (String one : FACE.split(" ")) {
            names.add(one.substring(0, one.indexOf('/')));
        }
        for (Method method : owner.getDeclaredMethods()) {
            boolean own = owner != DeBruijnWorkbench.class || Modifier.isPrivate(method.getModifiers());
            due.that(!own || !names.contains(method.getName()), method + " bears the name of a call of the face");
            due.that(method.getParameterCount() <= 7, method + " takes more than seven parameters");
        }
        int fields = 0;
        for (Field field : owner.getDeclaredFields()) {
            boolean constant = Modifier.isStatic(field.getModifiers());
            due.that(!constant || Modifier.isFinal(field.getModifiers()), field + " is static and not final");
            due.that(!constant || field.getType() == int.class, field + " is a constant of another type");
            fields += constant ? 0 : 1;
        }
        due.that(fields <= 20, owner + " has " + fields + " fields");
    }

    private static void source() throws IOException {
        String text = Files.readString(Path.of("src/main/java/DeBruijnWorkbench.java"), StandardCharsets.UTF_8);
        due.that(text.chars().allMatch(c -> c < 127), "the source has a sign above 126");
        String code = text.replaceAll("(?s)/\\*.*?\\*/", "").replaceAll("//[^\n]*", "");
        for (String word : FORBIDDEN) {
            due.that(!Pattern.compile(word).matcher(code).find(), "the source holds " + word);
        }
    }
}
