import java.io.IOException;
import java.lang.reflect.InvocationTargetException;
import java.lang.reflect.Method;
import java.nio.file.Files;
import java.nio.file.Path;
import java.util.regex.Matcher;
import java.util.regex.Pattern;

/** Makes each call of the example in README.md, which tells the answer behind it: 'range.pass(2); // 2'. */
final class ReadmeTest {
    private static final Pattern CALL =
            Pattern.compile("(?:\\w+ \\w+ = )?range\\.(\\w+)\\(([^)]*)\\); +// (\\S+?)[,:]?(?: .*)?");
    private static final String MAKING = "LaunchRange range = new LaunchRange();";

    private ReadmeTest() {
    }

    static void holdAgainst(Path readme) throws IOException {
        Check.promise(0);
        String text = Files.readString(readme);
        int from = text.indexOf("```java\n") + "```java\n".length();
        String[] lines = text.substring(from, text.indexOf("\n```", from)).split("\n");
        Check.text("README.md begins with", lines[0], MAKING);
        LaunchRange range = new LaunchRange();
        for (int i = 1; i < lines.length; i++) {
            Matcher call = CALL.matcher(lines[i]);
            Check.is("README.md has a call in: " + lines[i], call.matches(), true);
            if (call.matches()) {
                Check.text("README.md: " + lines[i], answer(range, call.group(1), call.group(2)), call.group(3));
            }
        }
    }

    private static String answer(LaunchRange range, String name, String texts) {
        String[] parts = texts.isEmpty() ? new String[0] : texts.split(", ");
        for (Method method : LaunchRange.class.getMethods()) {
            if (method.getName().equals(name) && method.getParameterCount() == parts.length) {
                return call(range, method, parts);
            }
        }
        return "no such call";
    }

    private static String call(LaunchRange range, Method method, String[] parts) {
        Object[] with = new Object[parts.length];
        for (int i = 0; i < parts.length; i++) {
            Class<?> type = method.getParameterTypes()[i];
            if (type == boolean.class) {
                with[i] = parts[i].equals("true");
            } else if (type == char.class) {
                with[i] = parts[i].charAt(1);
            } else {
                with[i] = Integer.parseInt(parts[i]);
            }
        }
        try {
            Object answer = method.invoke(range, with);
            return answer instanceof Character ? "'" + answer + "'" : "" + answer;
        } catch (InvocationTargetException e) {
            return e.getCause().getClass().getSimpleName();
        } catch (IllegalAccessException e) {
            throw new IllegalStateException(e);
        }
    }
}
