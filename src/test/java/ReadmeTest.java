import java.io.IOException;
import java.lang.reflect.Method;
import java.lang.reflect.Modifier;
import java.nio.file.DirectoryStream;
import java.nio.file.Files;
import java.nio.file.Path;
import java.util.regex.Matcher;
import java.util.regex.Pattern;

/** README.md tells how to use the class and how to run its tests: what it tells must be so, and nothing be left out. */
public final class ReadmeTest {
    private static final Due T = new Due("ReadmeTest");
    private static final int CALLS_AT_LEAST = 9;

    public static void main(String[] args) throws IOException, ReflectiveOperationException {
        String readme = Files.readString(Path.of("README.md"));
        exampleAnswersAsTold(readme);
        everyCallIsTold(readme);
        everyTestIsTold(readme);
        T.end();
    }

    private static void exampleAnswersAsTold(String readme) throws ReflectiveOperationException {
        Matcher text = Pattern.compile("String text = \"([^\"]*)\";").matcher(readme);
        T.due("the example has a text", text.find() ? 1 : 0, 1);
        Named kings = new Named(new BoredKings()).write(text.group(1));
        Matcher call = Pattern.compile("(?m)^kings\\.(\\w+)\\(([-0-9, ]*)\\); +// (?:BoredKings\\.)?(-?\\w+):").matcher(readme);
        int calls = 0;
        while (call.find()) {
            T.due(call.group(), kings.ask(call.group(1), numbers(call.group(2))), answer(call.group(3)));
            calls++;
        }
        T.due("the example has calls", calls >= CALLS_AT_LEAST ? 1 : 0, 1);
    }

    private static int[] numbers(String list) {
        return Pattern.compile("-?\\d+").matcher(list).results().mapToInt(found -> Integer.parseInt(found.group())).toArray();
    }

    private static int answer(String told) throws ReflectiveOperationException {
        return told.matches("-?\\d+") ? Integer.parseInt(told) : BoredKings.class.getField(told).getInt(null);
    }

    /** By a line of the table that has so many numbers as the call takes. */
    private static void everyCallIsTold(String readme) {
        for (Method method : BoredKings.class.getDeclaredMethods()) {
            if (Modifier.isPublic(method.getModifiers())) {
                String numbers = method.getParameterCount() == 0 ? "" : "\\w+(, \\w+){" + (method.getParameterCount() - 1) + "}";
                Matcher line = Pattern.compile("(?m)^\\| `" + method.getName() + "\\(" + numbers + "\\)` \\|").matcher(readme);
                T.due(method.getName() + " is told", line.results().count(), 1);
            }
        }
    }

    private static void everyTestIsTold(String readme) throws IOException {
        try (DirectoryStream<Path> files = Files.newDirectoryStream(Path.of("src/test/java"), "*.java")) {
            for (Path file : files) {
                String name = file.getFileName().toString().replace(".java", "");
                T.due(name + " is told", readme.contains("`" + name + "`") ? 1 : 0, 1);
            }
        }
        Matcher told = Pattern.compile("`(\\w+Test)`").matcher(readme);
        while (told.find()) {
            Path file = Path.of("src/test/java", told.group(1) + ".java");
            T.due(file + " is there", Files.exists(file) ? 1 : 0, 1);
        }
        T.due("how to run them is told", readme.contains("`.ci/run`") && Files.isExecutable(Path.of(".ci/run")) ? 1 : 0, 1);
    }
}
