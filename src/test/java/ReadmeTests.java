import java.io.IOException;
import java.lang.reflect.InvocationTargetException;
import java.lang.reflect.Method;
import java.lang.reflect.Modifier;
import java.nio.file.DirectoryStream;
import java.nio.file.Files;
import java.nio.file.Path;
import java.util.regex.Matcher;
import java.util.regex.Pattern;

/** README.md tells the truth: each call in it answers what stands behind it, and every call and test has its name there. */
public final class ReadmeTests extends Checks {
    private static final String NEW_OBJECT = "MarkovTree x = new MarkovTree();";
    private static final Pattern BLOCK = Pattern.compile("(?s)```java\n(.*?)```");
    private static final Pattern CALL = Pattern.compile("x\\.(\\w+)\\(([^)]*)\\); +// ([^:]+)(: .+)?");

    private ReadmeTests() {
    }

    public static void main(String[] args) throws IOException {
        about = "README.md";
        String text = Files.readString(Path.of("README.md"));
        examples(text);
        names(text);
        tellAll();
    }

    private static void examples(String text) {
        Matcher block = BLOCK.matcher(text);
        due("there are examples", block.find(), true);
        block.reset();
        while (block.find()) {
            example(block.group(1).split("\n"));
        }
    }

    private static void example(String[] lines) {
        due("the first line makes an object", lines[0].equals(NEW_OBJECT), true);
        MarkovTree x = new MarkovTree();
        for (int i = 1; i < lines.length; i++) {
            Matcher call = CALL.matcher(lines[i]);
            if (!call.matches()) {
                wrong("no call with its answer: " + lines[i]);
                continue;
            }
            String answer = answer(x, call.group(1), call.group(2).isEmpty() ? new String[0] : call.group(2).split(", "));
            due(lines[i] + " (" + answer + ")", answer.equals(call.group(3)), true);
        }
    }

    private static String answer(MarkovTree x, String name, String[] given) {
        Method method = methodOf(name, given.length);
        if (method == null) {
            return "no such call";
        }
        Object[] arguments = new Object[given.length];
        for (int i = 0; i < given.length; i++) {
            arguments[i] = argument(method.getParameterTypes()[i], given[i]);
        }
        try {
            return method.invoke(x, arguments).toString();
        } catch (InvocationTargetException e) {
            return "throws " + e.getCause().getClass().getSimpleName();
        } catch (IllegalAccessException e) {
            return "no public call";
        }
    }

    private static Method methodOf(String name, int parameters) {
        for (Method m : MarkovTree.class.getDeclaredMethods()) {
            if (m.getName().equals(name) && m.getParameterCount() == parameters) {
                return m;
            }
        }
        return null;
    }

    private static Object argument(Class<?> type, String given) {
        if (type == boolean.class) {
            return given.equals("true");
        }
        long number = Long.decode(given);
        return type == long.class ? (Object) number : (Object) (int) number;
    }

    private static void names(String text) throws IOException {
        for (Method m : MarkovTree.class.getDeclaredMethods()) {
            if (Modifier.isPublic(m.getModifiers())) {
                due("it names the call " + m.getName(), text.contains("`" + m.getName() + "("), true);
            }
        }
        try (DirectoryStream<Path> tests = Files.newDirectoryStream(Path.of("src/test/java"), "*.java")) {
            for (Path test : tests) {
                String name = test.getFileName().toString().replace(".java", "");
                due("it names the test " + name, text.contains("`" + name + "`"), true);
            }
        }
        due("it names .ci/run", text.contains("`.ci/run`"), true);
    }
}
