import java.io.IOException;
import java.lang.reflect.Method;
import java.lang.reflect.Modifier;
import java.nio.file.Files;
import java.nio.file.Path;
import java.util.Arrays;
import java.util.regex.Matcher;
import java.util.regex.Pattern;

/** The calls that README.md shows are answered as it tells, and it names each call of the face. */
public final class ReadmeTest {
    private static final Pattern CALL = Pattern.compile("x\\.(\\w+)\\((.*)\\); +// (-?\\w+).*");

    public static void main(String[] args) throws IOException {
        String readme = Files.readString(Path.of("README.md"));
        Spanwarden x = new Spanwarden();
        int shown = 0;
        for (String line : readme.split("\n")) {
            Matcher call = CALL.matcher(line);
            if (call.matches()) {
                Object answer = Calls.answer(x, call.group(1), argumentsOf(call.group(2)));
                Check.holds(line + " answered " + answer + ", and that",
                        textOf(answer).equals(call.group(3)));
                shown++;
            }
        }
        // A line that the pattern does not take would go unseen.
        Check.due("calls", shown, readme.lines().filter(line -> line.startsWith("x.")).count());
        Check.holds("calls are shown", shown > 0);
        for (Method method : Spanwarden.class.getDeclaredMethods()) {
            if (Modifier.isPublic(method.getModifiers())) {
                String name = "`" + method.getName() + "`";
                Check.holds("README.md names " + name, readme.contains(name));
            }
        }
        Check.end();
    }

    private static Object[] argumentsOf(String text) {
        return Arrays.stream(text.split(", ")).map(ReadmeTest::argumentOf).toArray();
    }

    private static Object argumentOf(String text) {
        if (text.equals("true") || text.equals("false")) {
            return Boolean.valueOf(text);
        }
        return text.startsWith("'") ? (Object) text.charAt(1) : (Object) Integer.valueOf(text);
    }

    private static String textOf(Object answer) {
        return answer instanceof Class<?> thrown ? thrown.getSimpleName() : answer.toString();
    }
}
