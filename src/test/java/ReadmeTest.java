import java.io.IOException;
import java.lang.reflect.Method;
import java.nio.file.Files;
import java.nio.file.Path;
import java.util.Set;
import java.util.TreeSet;
import java.util.regex.Matcher;
import java.util.regex.Pattern;

/** The example of README.md: each call on one object, with the answer that stands behind it. */
public final class ReadmeTest extends Answers {
    private static final Pattern CALL = Pattern.compile("harvest\\.(\\w+)\\((.*)\\);\\s*// (-?\\d+)\\b.*");

    private static Method method(String name) {
        for (Method method : CousinShares.class.getMethods()) {
            if (method.getName().equals(name) && method.getDeclaringClass() == CousinShares.class) {
                return method;
            }
        }
        throw new IllegalArgumentException("README.md calls " + name);
    }

    private static Object[] arguments(String list) {
        if (list.isEmpty()) {
            return new Object[0];
        }
        String[] words = list.split(", ");
        Object[] values = new Object[words.length];
        for (int i = 0; i < words.length; i++) {
            boolean isSign = words[i].charAt(0) == '\'';
            values[i] = isSign ? (Object) words[i].charAt(1) : (Object) Integer.valueOf(words[i]);
        }
        return values;
    }

    private static Set<String> methodsOfTheFace() {
        Set<String> names = new TreeSet<>();
        for (Method method : CousinShares.class.getMethods()) {
            if (method.getDeclaringClass() == CousinShares.class) {
                names.add(method.getName());
            }
        }
        return names;
    }

    public static void main(String[] args) throws IOException, ReflectiveOperationException {
        CousinShares harvest = new CousinShares();
        Set<String> untold = methodsOfTheFace();
        for (String line : Files.readAllLines(Path.of("README.md"))) {
            Matcher call = CALL.matcher(line);
            if (call.matches()) {
                Object got = method(call.group(1)).invoke(harvest, arguments(call.group(2)));
                due(line, (Integer) got, Integer.parseInt(call.group(3)));
                untold.remove(call.group(1));
            } else {
                due("a call without an answer: " + line, line.startsWith("harvest.") ? 1 : 0, 0);
            }
        }
        dueText("methods that README.md does not show", untold.toString(), "[]");
        finish();
    }
}
