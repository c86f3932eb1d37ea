import java.lang.reflect.Method;
import java.nio.file.Files;
import java.nio.file.Path;
import java.util.regex.Matcher;
import java.util.regex.Pattern;

/** Asks each call that README.md shows; what is due stands behind it there. The argument is the project's folder. */
public final class ReadmeTest {
    private static final Pattern BLOCK = Pattern.compile("(?s)```java\n(.*?)```");
    private static final Pattern STEP = Pattern.compile("(?s)\\b(?:s\\.(\\w+)\\(([^)]*)\\)|tell\\(s, (.*?)\\));\\s*// (-?\\w+)");
    private static final int CALLS = 49;
    private static final Due due = new Due();

    public static void main(String[] args) throws Exception {
        String page = Files.readString(Path.of(args.length > 0 ? args[0] : ".").resolve("README.md"));
        int asked = 0;
        Matcher block = BLOCK.matcher(page);
        while (block.find()) {
            StickStrings s = new StickStrings();
            Matcher step = STEP.matcher(block.group(1));
            while (step.find()) {
                String answer = step.group(1) == null ? "" + Due.tell(s, text(step.group(3))) : answer(s, step.group(1), step.group(2));
                due.is(step.group() + " answered " + answer, answer.equals(step.group(4)), true);
                asked++;
            }
        }
        // A call that is written otherwise would not be asked at all.
        due.is("calls of the page", asked, CALLS);
        due.end();
    }

    /** What stands between the marks of texts that are joined by +. */
    private static String text(String joined) {
        StringBuilder text = new StringBuilder();
        Matcher part = Pattern.compile("\"([^\"]*)\"").matcher(joined);
        while (part.find()) {
            text.append(part.group(1));
        }
        return text.toString();
    }

    private static String answer(StickStrings s, String name, String given) throws Exception {
        String[] parts = given.isBlank() ? new String[0] : given.split(",");
        Object[] numbers = new Object[parts.length];
        for (int i = 0; i < parts.length; i++) {
            numbers[i] = Integer.decode(parts[i].trim());
        }
        for (Method method : StickStrings.class.getMethods()) {
            if (method.getName().equals(name) && method.getParameterCount() == numbers.length) {
                return "" + method.invoke(s, numbers);
            }
        }
        return "no such call";
    }
}
