import java.lang.reflect.InvocationTargetException;
import java.lang.reflect.Method;
import java.lang.reflect.Modifier;
import java.util.Arrays;
import java.util.Map;
import java.util.TreeMap;

/** Calls of the face by their names, on FuseKinds or on PlainKinds. */
final class Face {
    private final Map<String, Method> methods = new TreeMap<>();

    Face(Class<?> of) {
        for (Method method : of.getDeclaredMethods()) {
            if (Modifier.isPublic(method.getModifiers())) {
                methods.put(method.getName(), method);
            }
        }
    }

    Map<String, Method> methods() {
        return methods;
    }

    /** The answer as text: a number, true, false, void, or throws. with the exception's name behind it. */
    String answer(Object on, String name, int... numbers) {
        Method method = methods.get(name);
        if (method == null || method.getParameterCount() != numbers.length) {
            throw new IllegalStateException("no such call: " + name + Arrays.toString(numbers));
        }
        try {
            Object got = method.invoke(on, Arrays.stream(numbers).boxed().toArray());
            return got == null ? "void" : got.toString();
        } catch (InvocationTargetException thrown) {
            return "throws." + thrown.getCause().getClass().getSimpleName();
        } catch (IllegalAccessException hidden) {
            throw new IllegalStateException(hidden);
        }
    }
}
