import java.lang.reflect.InvocationTargetException;
import java.lang.reflect.Method;
import java.util.HashMap;
import java.util.Map;

/** Calls the public methods of an object by their names, and tells the answers as texts. */
final class Caller {
    static final String NO_ANSWER = "nothing";
    static final String THROWS = "throws.";

    private final Object target;
    private final Map<String, Method> methods = new HashMap<>();

    Caller(Object target) {
        this.target = target;
        for (Method method : target.getClass().getDeclaredMethods()) {
            if (!method.isSynthetic()) {
                methods.put(method.getName() + "/" + method.getParameterCount(), method);
            }
        }
    }

    String call(String name, int... arguments) {
        Object[] boxed = new Object[arguments.length];
        for (int i = 0; i < arguments.length; i++) {
            boxed[i] = arguments[i];
        }
        Method method = methods.get(name + "/" + arguments.length);
        if (method == null) {
            throw new IllegalArgumentException("no method " + name + " with " + arguments.length + " parameters");
        }
        try {
            Object answer = method.invoke(target, boxed);
            return answer == null ? NO_ANSWER : answer.toString();
        } catch (InvocationTargetException thrown) {
            return THROWS + thrown.getCause().getClass().getSimpleName();
        } catch (IllegalAccessException impossible) {
            throw new IllegalStateException(impossible);
        }
    }

    int number(String name, int... arguments) {
        return Integer.parseInt(call(name, arguments));
    }

    boolean isAlive(int process) {
        return !call("of", process, 0).startsWith(THROWS);
    }

    /** All that can be asked without a change, but for what only messages and parts would show. */
    String state() {
        StringBuilder state = new StringBuilder();
        for (int which = 0; which <= 4; which++) {
            state.append(call("count", which)).append(' ');
        }
        for (int process = 1; process <= number("count", 3); process++) {
            if (isAlive(process)) {
                appendProcess(state, process);
            }
        }
        return state.toString();
    }

    private void appendProcess(StringBuilder state, int process) {
        state.append("| ").append(process).append(": ");
        for (int which = 0; which <= 2; which++) {
            state.append(call("of", process, which)).append(' ');
        }
        for (int r = 0; r <= 3; r++) {
            for (String question : new String[] {"kind", "value", "address", "words", "handles"}) {
                state.append(call(question, process, r)).append(' ');
            }
        }
    }
}
