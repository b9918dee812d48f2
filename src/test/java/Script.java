import java.lang.reflect.InvocationTargetException;
import java.lang.reflect.Method;
import java.util.ArrayList;
import java.util.HashMap;
import java.util.List;
import java.util.Map;

/**
 * Calls that are written as texts, such as "addEvent 0 1 5", for objects of any class that has the methods. The line
 * "write a;b" stands for one call of append for each character behind "write ".
 */
final class Script {
    private static final Map<String, Method> METHODS = new HashMap<>();

    private Script() {
    }

    private static Method method(Object target, String name) throws NoSuchMethodException {
        String key = target.getClass().getName() + "." + name;
        Method known = METHODS.get(key);
        if (known != null) {
            return known;
        }
        for (Method method : target.getClass().getDeclaredMethods()) {
            if (method.getName().equals(name) && method.getReturnType() == int.class) {
                METHODS.put(key, method);
                return method;
            }
        }
        throw new NoSuchMethodException(key);
    }

    static int call(Object target, String name, Object... arguments) {
        try {
            return (Integer) method(target, name).invoke(target, arguments);
        } catch (ReflectiveOperationException e) {
            Throwable cause = e instanceof InvocationTargetException ? e.getCause() : e;
            throw new IllegalStateException(name + " of " + target.getClass(), cause);
        }
    }

    /** Makes one call that is written as a text. */
    static int call(Object target, String line) {
        String[] words = line.trim().split(" ");
        Object[] arguments = new Object[words.length - 1];
        for (int i = 1; i < words.length; i++) {
            boolean isTruth = words[i].equals("true") || words[i].equals("false");
            arguments[i - 1] = isTruth ? (Object) Boolean.valueOf(words[i]) : (Object) Integer.valueOf(words[i]);
        }
        return call(target, words[0], arguments);
    }

    /** Makes all calls of some lines, and gives their answers. */
    static List<Integer> run(Object target, String lines) {
        List<Integer> answers = new ArrayList<>();
        for (String line : lines.split("\n")) {
            if (line.startsWith("write ")) {
                for (char c : line.substring(6).toCharArray()) {
                    answers.add(call(target, "append", (int) c));
                }
            } else if (!line.isBlank()) {
                answers.add(call(target, line));
            }
        }
        return answers;
    }
}
