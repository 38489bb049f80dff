import java.lang.reflect.InvocationTargetException;
import java.lang.reflect.Method;
import java.nio.file.Files;
import java.nio.file.Path;
import java.util.regex.Matcher;
import java.util.regex.Pattern;

/** The example in README.md: each call answers what stands behind it. */
final class ReadmeTest {
    private static final Pattern EXAMPLE = Pattern.compile("(?s)```java\n(.*?)```");
    private static final Pattern CALL = Pattern.compile("house\\.(\\w+)\\((.*?)\\); +// ([^:]+): .+");

    private final Check check;
    private final String root;

    ReadmeTest(Check check, String root) {
        this.check = check;
        this.root = root;
    }

    void run() throws Exception {
        check.rule("README.md");
        Matcher example = EXAMPLE.matcher(Files.readString(Path.of(root, "README.md")));
        check.holds("an example", example.find());
        String[] lines = example.group(1).split("\n");
        check.due("the first line", lines[0], "SmokeRacks house = new SmokeRacks();");
        SmokeRacks house = new SmokeRacks();
        for (int i = 1; i < lines.length; i++) {
            Matcher call = CALL.matcher(lines[i]);
            check.holds("a call in: " + lines[i], call.matches());
            check.due(lines[i], answer(house, call.group(1), call.group(2)), call.group(3));
        }
    }

    private static String answer(SmokeRacks house, String name, String listed) throws ReflectiveOperationException {
        String[] texts = listed.isEmpty() ? new String[0] : listed.split(", ");
        Method method = named(name);
        Object[] arguments = new Object[texts.length];
        for (int i = 0; i < texts.length; i++) {
            arguments[i] = value(method.getParameterTypes()[i], texts[i]);
        }
        try {
            Object got = method.invoke(house, arguments);
            return got instanceof Character ? "'" + got + "'" : got.toString();
        } catch (InvocationTargetException thrown) {
            return thrown.getCause().getClass().getSimpleName();
        }
    }

    private static Method named(String name) throws NoSuchMethodException {
        for (Method method : SmokeRacks.class.getMethods()) {
            if (method.getName().equals(name)) {
                return method;
            }
        }
        throw new NoSuchMethodException(name);
    }

    private static Object value(Class<?> type, String text) {
        if (type == boolean.class) {
            return Boolean.valueOf(text);
        }
        if (type == char.class) {
            return text.charAt(1);
        }
        return Integer.valueOf(text);
    }
}
