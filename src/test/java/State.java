import java.lang.reflect.Array;
import java.lang.reflect.Field;
import java.lang.reflect.Modifier;
import java.util.ArrayList;
import java.util.List;

/** All that an object holds, read without a call, so that none of its 512 calls is used up. */
final class State {
    private final StringBuilder text = new StringBuilder();
    private final List<Object> seen = new ArrayList<>();

    private State() {}

    static String of(Spanwarden x) {
        State state = new State();
        state.add(x);
        return state.text.toString();
    }

    /** The object that a path of field names and array places leads to. */
    static Object at(Object owner, Object... path) {
        Object found = owner;
        for (Object next : path) {
            found = next instanceof Integer ? Array.get(found, (int) next) : get(found, next);
        }
        return found;
    }

    static void set(Object owner, String name, Object value) {
        try {
            field(owner, name).set(owner, value);
        } catch (ReflectiveOperationException e) {
            throw new AssertionError(e);
        }
    }

    private static Object get(Object owner, Object name) {
        try {
            return field(owner, (String) name).get(owner);
        } catch (ReflectiveOperationException e) {
            throw new AssertionError(e);
        }
    }

    private static Field field(Object owner, String name) throws ReflectiveOperationException {
        Field field = owner.getClass().getDeclaredField(name);
        field.setAccessible(true);
        return field;
    }

    private void add(Object value) {
        if (value == null || value.getClass().getName().startsWith("java.lang.")) {
            text.append(value).append(' ');
        } else if (value.getClass().isArray()) {
            for (int i = 0; i < Array.getLength(value); i++) {
                add(Array.get(value, i));
            }
        } else if (isNew(value)) {
            addFields(value);
        }
    }

    /** An object that is met again is told by its number alone. */
    private boolean isNew(Object value) {
        for (int i = 0; i < seen.size(); i++) {
            if (seen.get(i) == value) {
                text.append('#').append(i).append(' ');
                return false;
            }
        }
        seen.add(value);
        return true;
    }

    private void addFields(Object owner) {
        for (Field field : owner.getClass().getDeclaredFields()) {
            // What calls use on their way is not part of the state.
            boolean isUse = field.getType().getSimpleName().equals("Bench");
            if (!isUse && !Modifier.isStatic(field.getModifiers())) {
                text.append(field.getName()).append(' ');
                add(get(owner, field.getName()));
            }
        }
    }
}
