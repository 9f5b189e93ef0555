import java.io.IOException;
import java.lang.reflect.Method;
import java.lang.reflect.Modifier;
import java.nio.file.Files;
import java.nio.file.Path;
import java.util.ArrayList;
import java.util.List;
import java.util.regex.Matcher;
import java.util.regex.Pattern;

/**
 * Runs the example of README.md line by line, so that what it says there stays true, and looks
 * for every call of the face. Is run from the project's directory.
 */
public final class ReadmeTest {
    private static final Pattern MAKING =
            Pattern.compile("TwoPhaseCuts cuts = new TwoPhaseCuts\\((-?\\d+)\\);");
    private static final Pattern CALL =
            Pattern.compile("cuts\\.(\\w+)\\((.*)\\); +// (-?\\d+|true|false): .+");

    private static int wrong = 0;

    public static void main(String[] args) throws IOException {
        String readme = Files.readString(Path.of("README.md"));
        List<String> example = exampleIn(readme);
        runExample(example);
        lookForEveryCall(readme);
        if (wrong > 0) {
            System.exit(1);
        }
        System.out.println(example.size() + " lines of the README's example are as due");
    }

    private static List<String> exampleIn(String readme) {
        List<String> example = new ArrayList<>();
        boolean inside = false;
        for (String line : readme.split("\\R")) {
            if (line.startsWith("```")) {
                inside = line.equals("```java");
            } else if (inside) {
                example.add(line);
            }
        }
        return example;
    }

    private static void runExample(List<String> example) {
        TwoPhaseCuts cuts = null;
        int answers = 0;
        for (String line : example) {
            Matcher making = MAKING.matcher(line);
            Matcher call = CALL.matcher(line);
            if (making.matches()) {
                cuts = new TwoPhaseCuts(Integer.parseInt(making.group(1)));
            } else if (cuts != null && call.matches()) {
                String got = answer(cuts, call.group(1), call.group(2));
                if (!got.equals(call.group(3))) {
                    fail("'" + line + "' answered " + got);
                }
                answers++;
            } else {
                fail("'" + line + "' is no line that this test can run");
            }
        }
        if (answers == 0) {
            fail("there is no example");
        }
    }

    private static String answer(TwoPhaseCuts cuts, String name, String arguments) {
        for (Method method : TwoPhaseCuts.class.getMethods()) {
            if (method.getName().equals(name)) {
                try {
                    return String.valueOf(method.invoke(cuts, numbersIn(arguments)));
                } catch (ReflectiveOperationException | IllegalArgumentException thrown) {
                    return "by " + thrown;
                }
            }
        }
        return "nothing, for there is no such call";
    }

    private static Object[] numbersIn(String arguments) {
        if (arguments.isEmpty()) {
            return new Object[0];
        }
        String[] texts = arguments.split(", ");
        Object[] numbers = new Object[texts.length];
        for (int i = 0; i < texts.length; i++) {
            numbers[i] = Integer.valueOf(texts[i]);
        }
        return numbers;
    }

    private static void lookForEveryCall(String readme) {
        for (Method method : TwoPhaseCuts.class.getDeclaredMethods()) {
            if (Modifier.isPublic(method.getModifiers())
                    && !readme.contains("| `" + method.getName() + "(")) {
                fail("README.md does not say what " + method.getName() + " does");
            }
        }
    }

    private static void fail(String what) {
        wrong++;
        System.out.println(what);
    }
}
