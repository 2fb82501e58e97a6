import java.io.IOException;
import java.lang.reflect.Method;
import java.nio.file.Files;
import java.nio.file.Path;
import java.util.regex.Matcher;
import java.util.regex.Pattern;

/** The example in README.md: every call in it is made, and answers what stands behind it. */
final class ReadmeTest {
    private static final Pattern MAKES = Pattern.compile("MemoryLink link = new MemoryLink\\((-?\\d+)\\);.*");
    private static final Pattern CALLS = Pattern.compile("link\\.(\\w+)\\(([^)]*)\\);\\s*// (true|false|-?\\d+)\\b.*");
    private static final Expect EXPECT = new Expect();

    public static void main(String[] args) throws IOException, ReflectiveOperationException {
        String text = Files.readString(Path.of("README.md"));
        MemoryLink link = null;
        for (String line : example(text).split("\n")) {
            Matcher made = MAKES.matcher(line);
            Matcher called = CALLS.matcher(line);
            if (made.matches()) {
                link = new MemoryLink(Integer.parseInt(made.group(1)));
            } else if (called.matches()) {
                EXPECT.same(line, answer(link, called.group(1), called.group(2)), number(called.group(3)));
            } else {
                EXPECT.yes("a line that is neither a call nor empty: " + line, line.isEmpty());
            }
        }
        EXPECT.finish();
    }

    private static String example(String text) {
        String opening = "```java\n";
        int start = text.indexOf(opening) + opening.length();
        return text.substring(start, text.indexOf("```", start));
    }

    private static long number(String word) {
        return switch (word) {
            case "true" -> 1;
            case "false" -> 0;
            default -> Long.parseLong(word);
        };
    }

    private static long answer(MemoryLink link, String name, String arguments) throws ReflectiveOperationException {
        String[] words = arguments.isEmpty() ? new String[0] : arguments.split(", ");
        Method method = method(name);
        Object[] values = new Object[words.length];
        for (int i = 0; i < words.length; i++) {
            boolean isFlag = method.getParameterTypes()[i] == boolean.class;
            values[i] = isFlag ? (Object) Boolean.valueOf(words[i]) : (Object) Integer.valueOf(words[i]);
        }
        return number(String.valueOf(method.invoke(link, values)));
    }

    private static Method method(String name) {
        for (Method method : MemoryLink.class.getMethods()) {
            if (method.getName().equals(name)) {
                return method;
            }
        }
        throw new IllegalArgumentException("the face has no " + name);
    }
}
