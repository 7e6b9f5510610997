import java.io.IOException;
import java.lang.reflect.Method;
import java.nio.file.Files;
import java.nio.file.Path;
import java.util.regex.Matcher;
import java.util.regex.Pattern;

/** The examples in README.md are run: each call must answer what stands behind it. */
public final class ReadmeTest {
    private static final Pattern MADE =
            Pattern.compile("TokenMesh x = new TokenMesh\\((\\d+), (\\d+), (\\d+)\\);.*");
    private static final Pattern CALL =
            Pattern.compile("x\\.(\\w+)\\((.*?)\\); +// (-?\\d+|true|false)(:.*)?");

    private static TokenMesh x;

    public static void main(String[] args) throws IOException, ReflectiveOperationException {
        boolean inExample = false;
        int examples = 0;
        for (String line : Files.readAllLines(Path.of("README.md"))) {
            if (line.startsWith("```")) {
                inExample = line.equals("```java");
                examples += inExample ? 1 : 0;
            } else if (inExample) {
                run(line);
            }
        }
        Check.due("README.md has examples", examples > 0, true);
        Check.finish();
    }

    private static void run(String line) throws ReflectiveOperationException {
        Matcher made = MADE.matcher(line);
        Matcher call = CALL.matcher(line);
        if (made.matches()) {
            x = new TokenMesh(number(made.group(1)), number(made.group(2)), number(made.group(3)));
        } else if (call.matches() && x != null) {
            Object answer = answer(call.group(1), call.group(2));
            Check.due("'" + line + "' answers " + answer, String.valueOf(answer).equals(call.group(3)), true);
        } else {
            Check.due("'" + line + "' can be run", false, true);
        }
    }

    private static Object answer(String name, String inBrackets) throws ReflectiveOperationException {
        String[] texts = inBrackets.isEmpty() ? new String[0] : inBrackets.split(", ");
        Object[] arguments = new Object[texts.length];
        for (int i = 0; i < texts.length; i++) {
            boolean isTruth = texts[i].equals("true") || texts[i].equals("false");
            arguments[i] = isTruth ? (Object) Boolean.valueOf(texts[i]) : (Object) number(texts[i]);
        }
        for (Method m : TokenMesh.class.getMethods()) {
            if (m.getName().equals(name) && m.getParameterCount() == arguments.length) {
                return m.invoke(x, arguments);
            }
        }
        return "nothing, there is no such method";
    }

    private static int number(String text) {
        return Integer.parseInt(text);
    }
}
