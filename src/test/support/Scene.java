import java.util.ArrayList;
import java.util.Arrays;
import java.util.List;

/**
 * A workbench that is told by its calls, so that it can be made again: after a call that must leave
 * the state alone it is compared with a twin that never had this call.
 */
final class Scene {
    private final Ask ask;
    private final List<String> calls = new ArrayList<>();
    private final DeBruijnWorkbench bench = new DeBruijnWorkbench();

    Scene(Ask ask, List<String> calls) {
        this.ask = ask;
        for (String call : calls) {
            make(bench, call);
            this.calls.add(call);
        }
    }

    /** Rows of the form "call -> answer", "call" or "sequence -> letters", one after the other. */
    Scene does(String... rows) {
        for (String row : rows) {
            String[] sides = row.split(" -> ");
            if (sides[0].equals("sequence")) {
                compare(row, Due.letters(bench), sides.length > 1 ? sides[1] : "");
            } else {
                calls.add(sides[0]);
                answer(bench, sides);
            }
        }
        return this;
    }

    /** Rows of the form "call -> answer", each on its own; none of them may change the state. */
    Scene keeps(String... rows) {
        String before = State.of(again());
        for (String row : rows) {
            DeBruijnWorkbench twin = again();
            answer(twin, row.split(" -> "));
            compare(row + " and then the state", State.of(twin), before);
        }
        return this;
    }

    /** Another scene that must have ended in the same state. */
    Scene same(Scene other) {
        compare("the state", State.of(again()), State.of(other.again()));
        return this;
    }

    private DeBruijnWorkbench again() {
        DeBruijnWorkbench twin = new DeBruijnWorkbench();
        for (String call : calls) {
            make(twin, call);
        }
        return twin;
    }

    private void answer(DeBruijnWorkbench on, String[] sides) {
        String got = make(on, sides[0]);
        if (sides.length > 1) {
            ask.note(sides[0], sides[1]);
            compare(sides[0], got, Ask.number(sides[1]));
        }
    }

    private void compare(String what, String got, String want) {
        ask.that(got.equals(want), calls + ": " + what + " answered " + got + ", due is " + want);
    }

    private static String make(DeBruijnWorkbench on, String call) {
        String name = call.substring(0, call.indexOf('('));
        String inside = call.substring(call.indexOf('(') + 1, call.lastIndexOf(')'));
        switch (name) {
            case "letters":
                inside.chars().forEach(c -> on.appendLetter(c - '0'));
                return "";
            case "signs":
                inside.chars().forEach(on::appendCommand);
                return "";
            case "elements":
                Arrays.stream(inside.split(" ")).forEach(e -> on.appendPattern(Integer.parseInt(e)));
                return "";
            default:
                return Calls.answer(on, call);
        }
    }
}
