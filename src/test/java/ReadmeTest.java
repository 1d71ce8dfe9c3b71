import java.lang.reflect.Method;
import java.lang.reflect.Modifier;
import java.nio.file.Files;
import java.nio.file.Path;
import java.util.Set;
import java.util.TreeSet;
import java.util.regex.Matcher;
import java.util.regex.Pattern;

// The example in README.md answers what it says there, line by line, and uses every method of the face.
public final class ReadmeTest {
    private static final Pattern MAKES = Pattern.compile("WireWays x = new WireWays\\((-?\\d+)\\);");
    private static final Pattern CALLS = Pattern.compile("x\\.(\\w+)\\(([^)]*)\\);\\s+// (true|false|NONE|\\d+)(:.*)?");

    private static int wrong = 0;

    private static void tell(String text) {
        wrong++;
        System.out.println(text);
    }

    private static Set<String> methodsOfTheFace() {
        Set<String> names = new TreeSet<>();
        for (Method method : WireWays.class.getDeclaredMethods()) {
            if (Modifier.isPublic(method.getModifiers())) {
                names.add(method.getName());
            }
        }
        return names;
    }

    private static Object valueOf(String text) {
        if (text.equals("true") || text.equals("false")) {
            return Boolean.valueOf(text);
        }
        return text.equals("NONE") ? Integer.valueOf(-1) : Integer.valueOf(text);
    }

    private static Object answer(WireWays x, String name, String[] texts) throws ReflectiveOperationException {
        Class<?>[] types = new Class<?>[texts.length];
        Object[] values = new Object[texts.length];
        for (int i = 0; i < texts.length; i++) {
            values[i] = valueOf(texts[i]);
            types[i] = values[i] instanceof Boolean ? boolean.class : int.class;
        }
        return WireWays.class.getMethod(name, types).invoke(x, values);
    }

    public static void main(String[] args) throws Exception {
        Set<String> unused = methodsOfTheFace();
        WireWays x = null;
        boolean inExample = false;
        for (String line : Files.readAllLines(Path.of("README.md"))) {
            if (line.startsWith("```")) {
                inExample = line.equals("```java");
                continue;
            }
            if (!inExample) {
                continue;
            }
            Matcher makes = MAKES.matcher(line);
            Matcher calls = CALLS.matcher(line);
            if (makes.matches()) {
                x = new WireWays(Integer.parseInt(makes.group(1)));
            } else if (x != null && calls.matches()) {
                Object got = answer(x, calls.group(1), calls.group(2).split(", "));
                unused.remove(calls.group(1));
                if (!got.equals(valueOf(calls.group(3)))) {
                    tell("README.md: " + line + " -- answered " + got);
                }
            } else {
                tell("README.md: a line that is neither a new object nor a call with its answer: " + line);
            }
        }
        if (!unused.isEmpty()) {
            tell("README.md: the example does not use " + unused);
        }
        System.out.println(wrong == 0 ? "the example holds" : wrong + " faults of README.md");
        if (wrong != 0) {
            System.exit(1);
        }
    }
}
