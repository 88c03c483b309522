import java.io.File;
import java.lang.reflect.Method;
import java.lang.reflect.Modifier;
import java.nio.file.Files;
import java.nio.file.Path;
import java.util.HashMap;
import java.util.Map;
import java.util.regex.Matcher;
import java.util.regex.Pattern;

/** README.md: its example answers what stands behind each call; it names the face, the constants and the tests. */
public final class ReadmeTest {
    private static final Pattern CALL = Pattern.compile("^(?:int (\\w+) = )?house\\.(\\w+)\\((.*)\\); +// (-?\\d+)\\b.*$");

    private static final Map<String, Integer> values = new HashMap<>();
    private static final HireScopes house = new HireScopes();

    public static void main(String[] args) throws Exception {
        String text = Files.readString(Path.of("README.md"));
        example(text);
        methods(text);
        constants(text);
        tests(text);
        Due.end();
    }

    private static void example(String text) throws Exception {
        int begin = text.indexOf("```java\n") + 8;
        int calls = 0;
        for (String line : text.substring(begin, text.indexOf("```", begin)).split("\n")) {
            Matcher call = CALL.matcher(line);
            if (call.matches()) {
                calls++;
                int answer = answerOf(call.group(2), call.group(3));
                Due.due("README: " + line, Integer.parseInt(call.group(4)), answer);
                values.put(call.group(1), answer);
            } else if (!line.startsWith("HireScopes house = new HireScopes();")) {
                Due.due("README: an answer behind the call: " + line, 1, 0);
            }
        }
        Due.due("README: an example of many calls", 1, calls > 10 ? 1 : 0);
    }

    private static int answerOf(String name, String arguments) throws Exception {
        String[] texts = arguments.isEmpty() ? new String[0] : arguments.split(", ");
        for (Method method : HireScopes.class.getMethods()) {
            if (method.getName().equals(name)) {
                Object[] given = new Object[texts.length];
                for (int i = 0; i < given.length; i++) {
                    given[i] = valueOf(texts[i]);
                }
                return ((Number) method.invoke(house, given)).intValue();
            }
        }
        throw new IllegalArgumentException("no method " + name);
    }

    /** A number, a name that stands for one, or a call within a call. */
    private static int valueOf(String text) throws Exception {
        Matcher call = Pattern.compile("house\\.(\\w+)\\((\\d*)\\)").matcher(text);
        if (call.matches()) {
            return answerOf(call.group(1), call.group(2));
        }
        return values.containsKey(text) ? values.get(text) : Integer.parseInt(text);
    }

    private static void methods(String text) {
        for (Method method : HireScopes.class.getDeclaredMethods()) {
            if (Modifier.isPublic(method.getModifiers())) {
                Matcher row = Pattern.compile("\\| `" + method.getReturnType() + " " + method.getName()
                        + "\\(([^)]*)\\)` \\| [^|]+ \\|[^|]*\\|\n").matcher(text);
                boolean found = row.find();
                Due.due("README: " + method, 1, found ? 1 : 0);
                int parameters = !found || row.group(1).isEmpty() ? 0 : row.group(1).split(",").length;
                Due.due("README: parameters of " + method, method.getParameterCount(), parameters);
            }
        }
    }

    private static void constants(String text) {
        String[] names = {"NOTHING", "UNKNOWN", "OUTSIDE", "STATE", "FULL"};
        int[] numbers = {HireScopes.NOTHING, HireScopes.UNKNOWN, HireScopes.OUTSIDE, HireScopes.STATE, HireScopes.FULL};
        for (int i = 0; i < names.length; i++) {
            Due.due("README: " + names[i], 1, text.contains("| `" + names[i] + "` | " + numbers[i] + " |") ? 1 : 0);
        }
    }

    private static void tests(String text) {
        File[] files = new File("src/test/java").listFiles();
        for (File file : files == null ? new File[0] : files) {
            String name = file.getName().replace(".java", "");
            if (name.endsWith("Test")) {
                Due.due("README: " + name, 1, Pattern.compile("\\| (\\w+, )*" + name + "(, \\w+)* \\|").matcher(text).find() ? 1 : 0);
            }
        }
    }
}
