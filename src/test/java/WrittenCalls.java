import java.lang.reflect.InvocationTargetException;
import java.lang.reflect.Method;
import java.util.regex.Matcher;
import java.util.regex.Pattern;

/** Runs calls that stand in a text, like "setLevel(0, 4)", on an object of its own. */
final class WrittenCalls {
    private static final Pattern CALL = Pattern.compile("(\\w+)\\(([^()]*)\\)");

    private final ComponentTree tree = new ComponentTree();

    /** The answer of a call as the document writes it: a number, or "throws" with the exception's name. */
    String answer(String call) {
        Matcher parts = CALL.matcher(call);
        if (!parts.matches()) {
            throw new AssertionError("this is no call: " + call);
        }
        String[] arguments = parts.group(2).isBlank() ? new String[0] : parts.group(2).split(", ");
        return run(methodOf(parts.group(1)), arguments);
    }

    private static Method methodOf(String name) {
        for (Method method : ComponentTree.class.getMethods()) {
            if (method.getName().equals(name) && method.getDeclaringClass() == ComponentTree.class) {
                return method;
            }
        }
        throw new AssertionError("there is no call " + name);
    }

    private String run(Method method, String[] arguments) {
        Class<?>[] types = method.getParameterTypes();
        if (types.length != arguments.length) {
            throw new AssertionError(method.getName() + " takes " + types.length + " arguments");
        }
        Object[] values = new Object[arguments.length];
        for (int index = 0; index < arguments.length; index++) {
            values[index] = valueOf(types[index], arguments[index]);
        }
        try {
            return String.valueOf(method.invoke(tree, values));
        } catch (InvocationTargetException thrown) {
            return "throws " + thrown.getCause().getClass().getSimpleName();
        } catch (IllegalAccessException thrown) {
            throw new AssertionError(thrown);
        }
    }

    private static Object valueOf(Class<?> type, String argument) {
        if (type == boolean.class) {
            return Boolean.valueOf(argument);
        }
        // A character in quotes stands for its code, as in Java.
        return argument.startsWith("'") ? (int) argument.charAt(1) : Integer.parseInt(argument);
    }
}
