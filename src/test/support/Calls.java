import java.lang.reflect.InvocationTargetException;
import java.lang.reflect.Method;
import java.util.Arrays;

/** Makes calls that are written as text. */
final class Calls {
    private Calls() {
    }

    /** What a call like cut(1, 3) answers, or what it throws. */
    static String answer(DeBruijnWorkbench on, String call) {
        int open = call.indexOf('(');
        String inside = call.substring(open + 1, call.lastIndexOf(')'));
        String[] words = inside.isEmpty() ? new String[0] : inside.split(", ");
        Class<?>[] types = new Class<?>[words.length];
        Arrays.fill(types, int.class);
        Object[] numbers = Arrays.stream(words).map(w -> Integer.valueOf(Ask.number(w))).toArray();
        try {
            Method method = DeBruijnWorkbench.class.getMethod(call.substring(0, open), types);
            return method.invoke(on, numbers).toString();
        } catch (InvocationTargetException e) {
            return e.getCause().toString();
        } catch (ReflectiveOperationException e) {
            throw new IllegalArgumentException(call, e);
        }
    }
}
