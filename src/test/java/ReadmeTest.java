import java.lang.reflect.InvocationTargetException;
import java.lang.reflect.Method;
import java.nio.file.Files;
import java.nio.file.Path;
import java.util.regex.Matcher;
import java.util.regex.Pattern;

/** The calls that README.md shows, each with the answer that stands behind it. */
public final class ReadmeTest {
    private static final String MADE = "CheckmarkOffice office = new CheckmarkOffice();";
    private static final Pattern CALL = Pattern.compile("office\\.(\\w+)\\((.*)\\); +// (-?\\w+)(:.*)?");

    private final Due due = new Due();
    private final CheckmarkOffice office = new CheckmarkOffice();

    public static void main(String[] arguments) throws Exception {
        new ReadmeTest().run();
    }

    private void run() throws Exception {
        String text = Files.readString(Path.of("README.md"));
        int from = text.indexOf("```java\n") + "```java\n".length();
        for (String line : text.substring(from, text.indexOf("```", from)).split("\n")) {
            Matcher call = CALL.matcher(line);
            if (call.matches()) {
                due.compare(line + " " + call.group(3), line + " " + answerOf(call.group(1), call.group(2)));
            } else {
                due.compare("a call", line.isEmpty() || line.startsWith("// ") || line.equals(MADE) ? "a call" : line);
            }
        }
        due.end();
    }

    private String answerOf(String name, String told) throws Exception {
        String[] parts = told.isEmpty() ? new String[0] : told.split(", ");
        for (Method method : CheckmarkOffice.class.getMethods()) {
            if (method.getName().equals(name) && method.getParameterCount() == parts.length) {
                return answerOf(method, parts);
            }
        }
        return "no such call";
    }

    private String answerOf(Method method, String[] parts) throws Exception {
        Object[] arguments = new Object[parts.length];
        for (int index = 0; index < parts.length; index++) {
            arguments[index] = argument(method.getParameterTypes()[index], parts[index]);
        }
        try {
            return method.invoke(office, arguments).toString();
        } catch (InvocationTargetException thrown) {
            return thrown.getCause().getClass().getSimpleName();
        }
    }

    private static Object argument(Class<?> type, String told) {
        if (type == boolean.class) {
            return Boolean.valueOf(told);
        }
        if (type == char.class) {
            return told.charAt(1);
        }
        long number = told.startsWith("0b") ? Long.parseLong(told.substring(2), 2) : Long.decode(told.replace("L", ""));
        if (type == int.class) {
            return (int) number;
        }
        return number;
    }
}
