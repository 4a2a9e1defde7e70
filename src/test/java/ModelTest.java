import java.lang.reflect.InvocationTargetException;
import java.lang.reflect.Method;
import java.util.ArrayList;
import java.util.Arrays;
import java.util.Comparator;
import java.util.List;
import java.util.Random;

/** Runs of drawn calls, always the same ones, on the class and on the model: every answer must be the same. */
public final class ModelTest {
    private static final int RUNS = 400;
    private static final int CALLS = 512;
    private static final int[] EXTREMES = {Integer.MIN_VALUE, Integer.MAX_VALUE, -1, 0, 255, 256, 257, 1000000000, -1000};
    private static final String[] COMMANDS = {"greedy", "lyndon", "necklace", "joined", "joined:", "joined:1", "joined:07",
        "joined:63", "joined:100", "lyndon:999", "necklace:0001", "greedy:1:", "Joined", "joine", "", ":", "greedy:x"};

    private final Random random;
    private final Due due;
    private final DeBruijnWorkbench bench = new DeBruijnWorkbench();
    private final Model model = new Model();
    private final List<String> told = new ArrayList<>();

    private ModelTest(long seed, Due due) {
        this.random = new Random(seed);
        this.due = due;
    }

    public static void main(String[] args) throws Exception {
        Due due = new Due();
        Method[] methods = faceMethods();
        for (int run = 0; run < RUNS && !due.isWrong(); run++) {
            new ModelTest(run, due).run(methods);
        }
        due.end();
    }

    private static Method[] faceMethods() {
        Method[] methods = DeBruijnWorkbench.class.getDeclaredMethods();
        methods = Arrays.stream(methods).filter(m -> java.lang.reflect.Modifier.isPublic(m.getModifiers())).toArray(Method[]::new);
        Arrays.sort(methods, Comparator.comparing(Method::getName));
        return methods;
    }

    private void run(Method[] methods) throws Exception {
        while (told.size() < CALLS && !due.isWrong()) {
            int draw = random.nextInt(100);
            if (draw < 4) {
                writeCommand();
            } else if (draw < 7) {
                growSequence();
            } else if (draw < 10) {
                writePattern();
            } else {
                drawCall(methods[random.nextInt(methods.length)]);
            }
        }
    }

    private void drawCall(Method method) throws Exception {
        // Calls that empty the sequence come seldom, or most runs would stay short.
        boolean emptying = List.of("configure", "restore", "undo").contains(method.getName());
        if (emptying && random.nextInt(4) > 0) {
            return;
        }
        Object[] arguments = new Object[method.getParameterCount()];
        for (int i = 0; i < arguments.length; i++) {
            arguments[i] = random.nextInt(5) > 0 ? drawUsual(method.getName(), i) : drawNumber();
        }
        if (method.getName().equals("exchange") && random.nextInt(4) > 0) {
            Arrays.sort(arguments);
        }
        call(method, arguments);
    }

    /** A number that is mostly in range. */
    private int drawUsual(String name, int place) {
        boolean ofTable = name.endsWith("Table");
        switch (name + place) {
            case "configure0":
                return 2 + random.nextInt(3);
            case "configure1":
                return 1 + random.nextInt(4);
            case "createTable1":
            case "importTable1":
                return random.nextInt(2);
            case "createTable2":
                return random.nextInt(2) == 0 ? random.nextInt(6) : bench.length() + random.nextInt(4);
            case "exportTable1":
                return random.nextInt(4);
            case "writeTable2":
                return random.nextInt(2) == 0 ? random.nextInt(4) : 'a' + random.nextInt(4);
            case "setLetter1":
            case "appendLetter0":
            case "appendPattern0":
            case "runCount0":
            case "discrepancy0":
                return random.nextInt(model.letterCount());
            case "lyndonWord0":
            case "lyndonCount0":
                return 1 + random.nextInt(model.order());
            case "missingBlock0":
                return random.nextInt(6);
            default:
                return ofTable && place == 0 ? random.nextInt(2) : ofTable ? random.nextInt(6) : drawPlace();
        }
    }

    private int drawPlace() {
        return random.nextInt(Math.max(2, bench.length()));
    }

    private int drawNumber() {
        switch (random.nextInt(8)) {
            case 0:
                return EXTREMES[random.nextInt(EXTREMES.length)];
            case 1:
                return random.nextInt(302) - 1;
            case 2:
            case 3:
                return random.nextInt(bench.length() + 2);
            case 4:
                return random.nextInt(20) - 2;
            default:
                return random.nextInt(5);
        }
    }

    private void writeCommand() throws Exception {
        String command = COMMANDS[random.nextInt(COMMANDS.length)];
        for (int i = 0; i < command.length(); i++) {
            call("appendCommand", (int) command.charAt(i));
        }
        call("runCommand");
    }

    private void growSequence() throws Exception {
        int period = 1 + random.nextInt(5);
        int count = random.nextInt(14);
        for (int i = 0; i < count; i++) {
            call("appendLetter", i % period % model.letterCount());
        }
    }

    private void writePattern() throws Exception {
        int count = random.nextInt(4);
        for (int i = 0; i < count; i++) {
            call("appendPattern", random.nextInt(model.letterCount() + 1) - 1);
        }
        call("patternCount");
    }

    private void call(String name, Object... arguments) throws Exception {
        Class<?>[] types = new Class<?>[arguments.length];
        Arrays.fill(types, int.class);
        call(DeBruijnWorkbench.class.getMethod(name, types), arguments);
    }

    private void call(Method method, Object... arguments) throws Exception {
        String text = method.getName() + Arrays.toString(arguments);
        String got;
        try {
            got = method.invoke(bench, arguments).toString();
        } catch (InvocationTargetException e) {
            got = e.getCause().toString();
        }
        Method same = Model.class.getDeclaredMethod(method.getName(), method.getParameterTypes());
        same.setAccessible(true);
        String want = same.invoke(model, arguments).toString();
        told.add(text + " -> " + want);
        due.that(got.equals(want), told + "\nthe last call answered " + got);
        compareSequences();
    }

    private void compareSequences() {
        boolean same = bench.length() == model.length();
        for (int i = 0; same && i < bench.length(); i++) {
            same = bench.letter(i) == model.letter(i);
        }
        due.that(same, told + "\nafter the last call the sequence is another one");
    }
}
