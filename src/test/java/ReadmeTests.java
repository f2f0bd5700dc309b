import java.io.IOException;
import java.lang.reflect.Method;
import java.lang.reflect.Modifier;
import java.nio.charset.StandardCharsets;
import java.nio.file.Files;
import java.nio.file.Paths;
import java.util.Arrays;
import java.util.regex.Matcher;
import java.util.regex.Pattern;

/** What README.md tells of the answers is so, and no call is left out there. */
final class ReadmeTests {
    private static final Pattern EXAMPLE = Pattern.compile("(?s)```java\n(.*?)```");
    private static final Pattern CALL = Pattern.compile("flock\\.(\\w+)\\(([^)]*)\\);\\s+// (-?\\d+) .*");
    private static final Pattern TEXT = Pattern.compile("(?s)```text\n(.*?)\n```");

    private ReadmeTests() {
    }

    static void run(String place) throws IOException {
        String page = new String(Files.readAllBytes(Paths.get(place)), StandardCharsets.UTF_8);
        example(page);
        text(page);
        for (Method method : WhistleFlock.class.getDeclaredMethods()) {
            boolean isNamed = page.contains("`" + method.getName() + "(");
            Checks.holds("README.md tells of " + method, isNamed || !Modifier.isPublic(method.getModifiers()));
        }
    }

    private static void example(String page) {
        Matcher matcher = EXAMPLE.matcher(page);
        Checks.holds("README.md has an example", matcher.find());
        String[] lines = matcher.group(1).split("\n");
        Checks.holds("the example begins with a new one", lines[0].equals("WhistleFlock flock = new WhistleFlock();"));
        WhistleFlock flock = new WhistleFlock();
        for (int n = 1; n < lines.length; n++) {
            Matcher call = CALL.matcher(lines[n]);
            Checks.holds("README.md tells the answer of " + lines[n], call.matches() && isAnswer(flock, call));
        }
    }

    private static boolean isAnswer(WhistleFlock flock, Matcher call) {
        Object[] numbers = Arrays.stream(call.group(2).split(", ")).filter(one -> !one.isEmpty())
            .map(Integer::valueOf).toArray();
        Class<?>[] types = new Class<?>[numbers.length];
        Arrays.fill(types, int.class);
        try {
            Object answer = WhistleFlock.class.getMethod(call.group(1), types).invoke(flock, numbers);
            return answer.toString().equals(call.group(3));
        } catch (ReflectiveOperationException thrown) {
            return false;
        }
    }

    private static void text(String page) {
        Matcher matcher = TEXT.matcher(page);
        Checks.holds("README.md has a text", matcher.find());
        Checks.told(matcher.group(1));
    }
}
