import java.io.IOException;
import java.lang.reflect.InvocationTargetException;
import java.lang.reflect.Method;
import java.nio.file.Files;
import java.nio.file.Path;
import java.util.regex.Matcher;
import java.util.regex.Pattern;

/** The example of README.md: each of its calls, in their order, answers what its comment begins with. */
public final class ReadmeTest {
    private static final Pattern CALL = Pattern.compile("harbour\\.(\\w+)\\((.*)\\); +// (-?\\w+): .*");
    private static final String MADE = "ShardHarbour harbour = new ShardHarbour();";

    public static void main(String[] args) throws IOException {
        ShardHarbour harbour = new ShardHarbour();
        boolean isExample = false;
        int calls = 0;
        for (String line : Files.readAllLines(Path.of("README.md"))) {
            if (line.startsWith("```")) {
                isExample = line.equals("```java");
            } else if (isExample && !line.equals(MADE)) {
                answersAsWritten(harbour, line);
                calls++;
            }
        }
        Due.is("the example has calls", calls > 10, true);
        Due.end();
    }

    private static void answersAsWritten(ShardHarbour harbour, String line) {
        Matcher written = CALL.matcher(line);
        boolean isCall = written.matches();
        Due.is("a call with its answer: " + line, isCall, true);
        if (isCall) {
            String answer = answerOf(harbour, written.group(1), written.group(2).split(", "));
            Due.same(line, answer, written.group(3));
        }
    }

    private static String answerOf(ShardHarbour harbour, String name, String[] given) {
        for (Method method : ShardHarbour.class.getMethods()) {
            if (method.getName().equals(name) && method.getParameterCount() == given.length) {
                return answerOf(harbour, method, given);
            }
        }
        return "there is no such method";
    }

    private static String answerOf(ShardHarbour harbour, Method method, String[] given) {
        Object[] arguments = new Object[given.length];
        for (int i = 0; i < given.length; i++) {
            boolean isFlag = method.getParameterTypes()[i] == boolean.class;
            arguments[i] = isFlag ? (Object) Boolean.valueOf(given[i]) : (Object) Integer.valueOf(given[i]);
        }
        try {
            return String.valueOf(method.invoke(harbour, arguments));
        } catch (InvocationTargetException | IllegalAccessException thrown) {
            return "throws " + thrown.getCause();
        }
    }
}
