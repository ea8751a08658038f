import java.lang.reflect.InvocationTargetException;
import java.lang.reflect.Method;
import java.lang.reflect.Modifier;
import java.util.Map;
import java.util.TreeMap;

/** Calls a method of the face by its name, on the class or on the model. */
final class Calls {
    private static final Map<String, Method> OF_CLASS = methodsOf(Spanwarden.class);
    private static final Map<String, Method> OF_MODEL = methodsOf(Model.class);

    private Calls() {}

    private static Map<String, Method> methodsOf(Class<?> owner) {
        Map<String, Method> methods = new TreeMap<>();
        for (Method method : owner.getDeclaredMethods()) {
            int modifiers = method.getModifiers();
            if (!Modifier.isPrivate(modifiers) && !Modifier.isStatic(modifiers)) {
                methods.put(method.getName(), method);
            }
        }
        return methods;
    }

    /** The answer, or the very class of what was thrown. */
    static Object answer(Object asked, String method, Object[] arguments) {
        Map<String, Method> methods = asked instanceof Spanwarden ? OF_CLASS : OF_MODEL;
        try {
            return methods.get(method).invoke(asked, arguments);
        } catch (InvocationTargetException e) {
            return e.getCause().getClass();
        } catch (IllegalAccessException e) {
            throw new AssertionError(e);
        }
    }
}
