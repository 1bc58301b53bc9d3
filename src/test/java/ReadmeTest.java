import java.lang.reflect.Method;
import java.nio.charset.StandardCharsets;
import java.nio.file.Files;
import java.nio.file.Path;
import java.util.regex.Matcher;
import java.util.regex.Pattern;

/** The examples of README.md: each line's call answers the number that stands behind it. */
final class ReadmeTest {
    private static final int EXAMPLES = 5;
    private static final String NEW_OFFICE = "BribedClerks office = new BribedClerks();";
    private static final Pattern CALL = Pattern.compile(
        "office\\.(\\w+)\\(([^)]*)\\);\\s+// (-?\\d+|[A-Z_]+)(: .*)?");

    private ReadmeTest() {
    }

    static void run(String readme) throws Exception {
        Check.promise("README.md");
        BribedClerks office = null;
        boolean inExample = false;
        int examples = 0;
        for (String line : Files.readAllLines(Path.of(readme), StandardCharsets.UTF_8)) {
            if (line.startsWith("```")) {
                inExample = line.equals("```java");
                examples += inExample ? 1 : 0;
                office = null;
            } else if (inExample && line.equals(NEW_OFFICE)) {
                office = new BribedClerks();
            } else if (inExample) {
                holdLine(office, line);
            }
        }
        Check.due("how many examples", examples, EXAMPLES);
    }

    private static void holdLine(BribedClerks office, String line) throws Exception {
        Matcher matcher = CALL.matcher(line);
        boolean isCall = matcher.matches() && office != null;
        Check.holds("no call with its answer, on a new object: " + line, isCall);
        if (isCall) {
            Check.due(line, answer(office, matcher.group(1), matcher.group(2)), due(matcher.group(3)));
        }
    }

    private static int due(String text) throws Exception {
        boolean isName = Character.isLetter(text.charAt(0));
        return isName ? BribedClerks.class.getField(text).getInt(null) : Integer.parseInt(text);
    }

    private static int answer(BribedClerks office, String name, String arguments) throws Exception {
        for (Method method : BribedClerks.class.getDeclaredMethods()) {
            if (method.getName().equals(name)) {
                return (int) method.invoke(office, values(method.getParameterTypes(), arguments));
            }
        }
        throw new NoSuchMethodException(name);
    }

    private static Object[] values(Class<?>[] types, String arguments) {
        String[] texts = types.length == 0 ? new String[0] : arguments.split(", ");
        Object[] values = new Object[types.length];
        for (int i = 0; i < types.length; i++) {
            if (types[i] == boolean.class) {
                values[i] = Boolean.valueOf(texts[i]);
            } else if (types[i] == char.class) {
                values[i] = texts[i].charAt(1);
            } else {
                values[i] = Integer.valueOf(texts[i]);
            }
        }
        return values;
    }
}
