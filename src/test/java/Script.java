import java.lang.reflect.InvocationTargetException;
import java.lang.reflect.Method;
import java.util.ArrayList;
import java.util.HashMap;
import java.util.List;
import java.util.Map;

/** Calls by name, played on any object that has the document's face: on the class, and on the model alike. */
final class Script {
    private static final Map<String, Method> METHODS = new HashMap<>();
    private final List<String> names = new ArrayList<>();
    private final List<long[]> arguments = new ArrayList<>();

    Script then(String name, long... args) {
        names.add(name);
        arguments.add(args);
        return this;
    }

    /** A text behind an empty tape, with no byte more than its own. */
    Script text(String text) {
        byte[] bytes = Check.bytes(text);
        then("end", 0);
        for (int i = 0; i < bytes.length; i += 20) {
            then("feed", Check.word(bytes, i), Check.word(bytes, i + 4), Check.word(bytes, i + 8),
                    Check.word(bytes, i + 12), Check.word(bytes, i + 16));
        }
        return then("end", bytes.length);
    }

    /** A row of numbers in a slot. */
    Script row(int slot, int width, long... numbers) {
        then("row", slot, width, numbers.length);
        for (int i = 0; i < numbers.length; i++) {
            then("write", slot, i, numbers[i]);
        }
        return this;
    }

    <T> T on(T target) {
        for (int i = 0; i < names.size(); i++) {
            call(target, names.get(i), arguments.get(i));
        }
        return target;
    }

    static long call(Object target, String name, long... args) {
        Method method = METHODS.computeIfAbsent(target.getClass().getName() + "." + name, key -> find(target, name));
        Object[] boxed = new Object[args.length];
        for (int i = 0; i < args.length; i++) {
            boxed[i] = method.getParameterTypes()[i] == long.class ? (Object) args[i] : (Object) (int) args[i];
        }
        try {
            return ((Number) method.invoke(target, boxed)).longValue();
        } catch (IllegalAccessException | InvocationTargetException e) {
            throw new IllegalStateException(name, e);
        }
    }

    private static Method find(Object target, String name) {
        for (Method method : target.getClass().getDeclaredMethods()) {
            if (method.getName().equals(name) && java.lang.reflect.Modifier.isPublic(method.getModifiers())) {
                return method;
            }
        }
        throw new IllegalStateException(name);
    }
}
