import java.lang.reflect.Method;
import java.nio.file.Files;
import java.nio.file.Path;
import java.util.regex.Matcher;
import java.util.regex.Pattern;

/** The example of README.md: each call that is shown there with an answer has that answer. */
public final class ReadmeTest extends Asking {
    private static final Pattern EXAMPLE = Pattern.compile("(?s)```java\n(.*?)```");
    private static final Pattern NEW = Pattern.compile("PatternBench bench = new PatternBench\\((\\d+)\\);.*");
    private static final Pattern TEXT = Pattern.compile("for \\(char c : \"(.*)\"\\.toCharArray\\(\\)\\) bench\\.(\\w+)\\(c\\);");
    private static final Pattern CALL = Pattern.compile("bench\\.(\\w+)\\((\\d*)\\); +// (-?\\d+)\\b.*");

    private static PatternBench bench = null;

    private static int call(String name, int... arguments) throws Exception {
        for (Method method : PatternBench.class.getDeclaredMethods()) {
            if (method.getName().equals(name) && method.getParameterCount() == arguments.length) {
                return (Integer) (arguments.length == 0 ? method.invoke(bench) : method.invoke(bench, arguments[0]));
            }
        }
        throw new IllegalStateException("there is no call " + name);
    }

    private static void line(String line) throws Exception {
        Matcher made = NEW.matcher(line);
        Matcher text = TEXT.matcher(line);
        Matcher asked = CALL.matcher(line);
        if (made.matches()) {
            bench = new PatternBench(Integer.parseInt(made.group(1)));
        } else if (text.matches()) {
            for (char c : text.group(1).replace("\\\\", "\\").toCharArray()) {
                due(line, call(text.group(2), c) > 0 ? 1 : 0, 1);
            }
        } else if (asked.matches()) {
            String argument = asked.group(2);
            int got = argument.isEmpty() ? call(asked.group(1)) : call(asked.group(1), Integer.parseInt(argument));
            due(line, got, Integer.parseInt(asked.group(3)));
        } else {
            due("a line that this test cannot read: " + line, 1, 0);
        }
    }

    public static void main(String[] args) throws Exception {
        Matcher example = EXAMPLE.matcher(Files.readString(Path.of("README.md")));
        due("README.md has an example", example.find() ? 1 : 0, 1);
        for (String line : example.group(1).split("\n")) {
            line(line);
        }
        tell();
    }
}
