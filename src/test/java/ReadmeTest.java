import java.lang.reflect.Method;
import java.nio.file.Files;
import java.nio.file.Path;
import java.util.regex.Matcher;
import java.util.regex.Pattern;

/** Each call that README.md shows answers what stands behind it. */
public final class ReadmeTest {
    private static final Pattern CALL =
            Pattern.compile("^polls\\.(\\w+)\\(([^)]*)\\);\\s*// (-?\\d+)\\b.*");

    private ReadmeTest() {
    }

    private static int ask(FirstPolls polls, String call, String told) throws Exception {
        String[] parts = told.isEmpty() ? new String[0] : told.split(",\\s*");
        Class<?>[] kinds = new Class<?>[parts.length];
        Object[] args = new Object[parts.length];
        for (int i = 0; i < parts.length; i++) {
            kinds[i] = int.class;
            args[i] = Integer.decode(parts[i]);
        }
        Method method = FirstPolls.class.getMethod(call, kinds);
        return (Integer) method.invoke(polls, args);
    }

    public static void main(String[] args) throws Exception {
        FirstPolls polls = new FirstPolls();
        int calls = 0;
        for (String line : Files.readAllLines(Path.of("README.md"))) {
            Matcher m = CALL.matcher(line);
            Check.due("'" + line + "' has an answer", line.startsWith("polls.") ? 1 : 0,
                    m.matches() ? 1 : 0);
            if (m.matches()) {
                calls++;
                Check.due(line, ask(polls, m.group(1), m.group(2)), Integer.parseInt(m.group(3)));
            }
        }
        Check.due("calls shown", calls > 0 ? 1 : 0, 1);
        Check.close("ReadmeTest");
    }
}
