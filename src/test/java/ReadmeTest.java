import java.io.IOException;
import java.lang.reflect.InvocationTargetException;
import java.lang.reflect.Method;
import java.lang.reflect.Modifier;
import java.nio.file.Files;
import java.nio.file.Path;
import java.util.ArrayList;
import java.util.List;
import java.util.regex.Matcher;
import java.util.regex.Pattern;
import java.util.stream.Stream;

/** README.md: its calls are made here, line by line, and must answer what stands behind them. */
public final class ReadmeTest extends Telling {
    private static final Path TESTS = Path.of("src/test/java");
    private static final String NEW_OBJECT = "SnowScore x = new SnowScore();";
    private static final Pattern BLOCK = Pattern.compile("(?ms)^```java( helper)?\n(.*?)^```$");
    private static final Pattern TOLD = Pattern.compile("tell\\(x, \"([^\"]*)\"\\); // (\\S+)");
    private static final Pattern CALL = Pattern.compile("x\\.(\\w+)\\(([-\\d, ]*)\\); // (\\S+)");

    private SnowScore x = null;
    private int calls = 0;
    private int wrong = 0;

    public static void main(String[] args) throws IOException {
        ReadmeTest test = new ReadmeTest();
        String page = Files.readString(Path.of("README.md"));
        test.blocks(page);
        test.namesAllCalls(page);
        test.saysHowToTest(page);
        if (test.wrong > 0) {
            System.exit(1);
        }
        System.out.println(test.calls + " calls of the page answered as it says");
    }

    private void must(boolean is, String what) {
        if (!is) {
            wrong++;
            System.out.println("README.md: " + what);
        }
    }

    private void blocks(String page) throws IOException {
        int helpers = 0;
        Matcher block = BLOCK.matcher(page);
        while (block.find()) {
            if (block.group(1) != null) {
                helpers++;
                String kept = Files.readString(TESTS.resolve("Telling.java"));
                must(kept.contains(block.group(2)), "the helper is not the one that the tests use");
            } else {
                block.group(2).lines().filter(line -> !line.isBlank()).forEach(this::line);
            }
        }
        must(helpers == 1, "one helper to tell a text by");
        must(calls > 20, "too few calls: " + calls);
    }

    private void line(String line) {
        Matcher told = TOLD.matcher(line);
        Matcher call = CALL.matcher(line);
        if (line.equals(NEW_OBJECT)) {
            x = new SnowScore();
        } else if (x != null && told.matches()) {
            answers(line, String.valueOf(tell(x, told.group(1))), told.group(2));
        } else if (x != null && call.matches()) {
            answers(line, answer(call.group(1), call.group(2)), call.group(3));
        } else {
            must(false, "neither a call with its answer nor a new object: " + line);
        }
    }

    private void answers(String line, String got, String due) {
        calls++;
        must(got.equals(due), line + " but it answered " + got);
    }

    /** What a call answers, or the name of what it throws. */
    private String answer(String name, String numbers) {
        String[] texts = numbers.isEmpty() ? new String[0] : numbers.split(", ");
        for (Method method : SnowScore.class.getDeclaredMethods()) {
            if (Modifier.isPublic(method.getModifiers()) && method.getName().equals(name)
                    && method.getParameterCount() == texts.length) {
                return made(method, texts);
            }
        }
        return "nothing: there is no such call";
    }

    private String made(Method method, String[] texts) {
        List<Object> arguments = new ArrayList<>();
        for (int i = 0; i < texts.length; i++) {
            long number = Long.parseLong(texts[i]);
            if (method.getParameterTypes()[i] == long.class) {
                arguments.add(number);
            } else {
                arguments.add((int) number);
            }
        }
        try {
            return String.valueOf(method.invoke(x, arguments.toArray()));
        } catch (InvocationTargetException e) {
            return e.getCause().getClass().getSimpleName();
        } catch (IllegalAccessException e) {
            return "nothing: " + e;
        }
    }

    private void namesAllCalls(String page) {
        for (Method method : SnowScore.class.getDeclaredMethods()) {
            if (Modifier.isPublic(method.getModifiers())) {
                must(page.contains("`" + method.getName() + "`"), "doesn't name the call " + method.getName());
            }
        }
    }

    private void saysHowToTest(String page) throws IOException {
        must(Files.isExecutable(Path.of(".ci/run")) && page.contains("\n.ci/run\n"), "how to run the tests");
        try (Stream<Path> files = Files.list(TESTS)) {
            List<String> names = files.map(file -> file.getFileName().toString()).sorted().toList();
            for (String name : names) {
                if (name.endsWith("Test.java")) {
                    must(page.contains("`" + name.replace(".java", "") + "`"), "doesn't name the test " + name);
                }
            }
        }
    }
}
