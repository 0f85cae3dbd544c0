import java.lang.reflect.InvocationTargetException;
import java.lang.reflect.Method;
import java.lang.reflect.Modifier;
import java.util.Arrays;
import java.util.Map;
import java.util.TreeMap;

/** The public methods of a class by their names, for the tests that ask PartedLand and LandModel the same calls. */
final class Calls {
    private final Map<String, Method> methods = new TreeMap<>();

    Calls(Class<?> type) {
        for (Method method : type.getDeclaredMethods()) {
            if (Modifier.isPublic(method.getModifiers())) {
                methods.put(method.getName(), method);
            }
        }
    }

    /** In the order of the alphabet, so that a run is always the same. */
    String[] names() {
        return methods.keySet().toArray(new String[0]);
    }

    int places(String name) {
        return methods.get(name).getParameterCount();
    }

    int ask(Object on, String name, int... arguments) {
        Object[] boxed = Arrays.stream(arguments).boxed().toArray();
        try {
            return (Integer) methods.get(name).invoke(on, boxed);
        } catch (IllegalAccessException | InvocationTargetException problem) {
            throw new IllegalStateException(name + Arrays.toString(arguments), problem);
        }
    }
}
