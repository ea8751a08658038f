import java.io.IOException;
import java.lang.reflect.Constructor;
import java.lang.reflect.Field;
import java.lang.reflect.Method;
import java.lang.reflect.Modifier;
import java.util.Arrays;
import java.util.TreeSet;
import java.util.stream.Collectors;

/** The public face is just that of the document, and rule 1 of the language holds. */
public final class FaceTest {
    public static void main(String[] args) throws IOException {
        TreeSet<String> due = dueFace();
        Check.holds("the document tells a face", due.size() == 35);
        TreeSet<String> face = new TreeSet<>();
        TreeSet<String> hidden = new TreeSet<>();
        for (Method method : Spanwarden.class.getDeclaredMethods()) {
            if (Modifier.isPublic(method.getModifiers())) {
                face.add(textOf(method));
            } else {
                hidden.add(method.getName());
                Check.holds(method + " is private", Modifier.isPrivate(method.getModifiers()));
            }
        }
        for (Constructor<?> constructor : Spanwarden.class.getDeclaredConstructors()) {
            Check.holds("public constructor", Modifier.isPublic(constructor.getModifiers()));
            face.add("Spanwarden" + parametersOf(constructor.getParameterTypes()));
        }
        for (String one : due) {
            Check.holds("the class has " + one, face.contains(one));
        }
        for (String one : face) {
            Check.holds("the document has " + one, due.contains(one));
            String name = one.substring(one.lastIndexOf(' ', one.indexOf('(')) + 1,
                    one.indexOf('('));
            Check.holds("no private method is called " + name, !hidden.contains(name));
        }
        for (Field field : Spanwarden.class.getDeclaredFields()) {
            Check.holds(field + " is private", Modifier.isPrivate(field.getModifiers()));
        }
        Check.holds("the class is final", Modifier.isFinal(Spanwarden.class.getModifiers()));
        Check.end();
    }

    /** Lines such as: public int put(int map, int key, int value) throws ..; */
    private static TreeSet<String> dueFace() throws IOException {
        TreeSet<String> face = new TreeSet<>();
        for (String line : Document.face()) {
            face.add(
                    line.substring("public ".length(), line.length() - 1)
                            .replaceAll("(int|boolean|char) \\w+([,)])", "$1$2"));
        }
        return face;
    }

    private static String textOf(Method method) {
        String thrown =
                Arrays.stream(method.getExceptionTypes())
                        .map(Class::getSimpleName)
                        .collect(Collectors.joining(", "));
        return method.getReturnType().getSimpleName()
                + " "
                + method.getName()
                + parametersOf(method.getParameterTypes())
                + (thrown.isEmpty() ? "" : " throws " + thrown);
    }

    private static String parametersOf(Class<?>[] types) {
        return Arrays.stream(types)
                .map(Class::getSimpleName)
                .collect(Collectors.joining(", ", "(", ")"));
    }
}
