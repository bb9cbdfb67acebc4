import java.io.IOException;
import java.lang.reflect.Method;
import java.nio.file.Files;
import java.nio.file.Path;
import java.util.Map;
import java.util.TreeMap;
import java.util.regex.Matcher;
import java.util.regex.Pattern;

/** README.md tells how the class is used: its example is called line by line, its table has every call. */
final class ReadmeTest {
    private static final Pattern CALL = Pattern.compile("^ {4}x\\.(\\w+)\\(([-0-9, ]*)\\); +// (-?\\d+|true|false)\\b");
    private static final Pattern FEED = Pattern.compile("^ {4}feed\\(x, \"(.*)\"\\);");
    private static final Pattern NAME = Pattern.compile("`(\\w+)`");

    private ReadmeTest() {
    }

    public static void main(String[] args) throws IOException, ReflectiveOperationException {
        String page = Files.readString(Path.of("README.md"));
        Map<String, Method> calls = new TreeMap<>();
        for (Method m : BeggingLetter.class.getMethods()) {
            if (m.getDeclaringClass() == BeggingLetter.class) {
                calls.put(m.getName(), m);
            }
        }
        example(page, calls);
        table(page, calls);
        Due.end();
    }

    private static void example(String page, Map<String, Method> calls) throws ReflectiveOperationException {
        BeggingLetter x = new BeggingLetter();
        int told = 0;
        for (String line : page.split("\n")) {
            Matcher feed = FEED.matcher(line);
            Matcher call = CALL.matcher(line);
            if (feed.find()) {
                Due.feed(x, Due.bytes(feed.group(1)));
            } else if (call.find()) {
                Object answer = calls.get(call.group(1)).invoke(x, numbers(call.group(2)));
                Due.holds(line.trim() + " answered " + answer, call.group(3).equals(answer.toString()));
                told++;
            }
        }
        Due.is("lines of the example with an answer", told, 21);
    }

    private static Object[] numbers(String list) {
        return Pattern.compile("-?\\d+").matcher(list).results().map(r -> Integer.valueOf(r.group())).toArray();
    }

    private static void table(String page, Map<String, Method> calls) {
        Map<String, Method> left = new TreeMap<>(calls);
        for (String line : page.split("\n")) {
            Matcher name = NAME.matcher(line.startsWith("| `") ? line : "");
            while (name.find()) {
                Due.holds(name.group(1) + " is a call, told once", left.remove(name.group(1)) != null);
            }
        }
        Due.holds("calls that are not told: " + left.keySet(), left.isEmpty());
    }
}
