import java.io.IOException;
import java.lang.reflect.Method;
import java.lang.reflect.Modifier;
import java.nio.charset.StandardCharsets;
import java.nio.file.DirectoryStream;
import java.nio.file.Files;
import java.nio.file.Path;
import java.util.regex.Matcher;
import java.util.regex.Pattern;

/** README.md, as the class and its tests stand now. */
public final class ReadmeTest {
    private static final Pattern CALL = Pattern.compile("x\\.(\\w+)\\(([-\\d, ]*)\\); +// (-?\\d+)(:.*)?");

    public static void main(String[] args) throws IOException, ReflectiveOperationException {
        String text = Files.readString(Path.of("README.md"), StandardCharsets.UTF_8);
        example(text);
        everyCall(text);
        everyTest(text);
        everyClassInside(text);
        Due.end();
    }

    /** Each line behind the first is a call with its answer: one that could not be read would not be tested. */
    private static void example(String text) throws ReflectiveOperationException {
        String[] parts = text.split("```");
        Due.isTrue("the example comes first", parts.length > 1 && parts[1].startsWith("java\n"));
        String[] lines = parts[1].split("\n");
        Due.isTrue("a new object", lines[1].equals("SweepKeeper x = new SweepKeeper();"));
        SweepKeeper x = new SweepKeeper();
        for (int k = 2; k < lines.length; k++) {
            Matcher call = CALL.matcher(lines[k]);
            boolean isCall = call.matches();
            Due.isTrue("a call with its answer: " + lines[k], isCall);
            if (isCall) {
                Due.is(lines[k], Integer.parseInt(call.group(3)), answerOf(x, call.group(1), call.group(2)));
            }
        }
    }

    private static int answerOf(SweepKeeper x, String name, String list) throws ReflectiveOperationException {
        String[] texts = list.isEmpty() ? new String[0] : list.split(", ");
        Object[] values = new Object[texts.length];
        Class<?>[] types = new Class<?>[texts.length];
        for (int k = 0; k < texts.length; k++) {
            values[k] = Integer.parseInt(texts[k]);
            types[k] = int.class;
        }
        return (int) SweepKeeper.class.getMethod(name, types).invoke(x, values);
    }

    private static void everyCall(String text) {
        for (Method m : SweepKeeper.class.getDeclaredMethods()) {
            if (Modifier.isPublic(m.getModifiers())) {
                Due.isTrue("README names the call " + m.getName(), text.contains("`" + m.getName() + "`"));
            }
        }
    }

    private static void everyTest(String text) throws IOException {
        try (DirectoryStream<Path> files = Files.newDirectoryStream(Path.of("src/test/java"), "*.java")) {
            for (Path file : files) {
                String name = file.getFileName().toString().replace(".java", "");
                Due.isTrue("README names " + name, text.contains("`" + name + "`"));
            }
        }
    }

    private static void everyClassInside(String text) {
        for (Class<?> c : SweepKeeper.class.getDeclaredClasses()) {
            Due.isTrue("README names the class " + c.getSimpleName(), text.contains("`" + c.getSimpleName() + "`"));
        }
    }
}
