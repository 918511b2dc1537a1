import java.io.IOException;
import java.lang.reflect.Method;
import java.nio.file.Files;
import java.nio.file.Path;
import java.util.regex.Matcher;
import java.util.regex.Pattern;

/** The calls that README.md shows, made as they stand there, with the answers that it tells. */
public final class ReadmeTest {
    private static final Pattern CALL = Pattern.compile("loom\\.(\\w+)\\(([^)]*)\\); *// (-?\\d+)\\b.*");
    private static ProbeLoom loom;
    private static int objects = 0;
    private static int calls = 0;

    public static void main(String[] args) throws IOException, ReflectiveOperationException {
        String text = Files.readString(Path.of(System.getProperty("probeloom.readme", "README.md")));
        Matcher blocks = Pattern.compile("(?s)```java\n(.*?)```").matcher(text);
        while (blocks.find()) {
            for (String line : blocks.group(1).split("\n")) {
                take(line.trim());
            }
        }
        Kit.due("the examples are found", objects, 2);
        Kit.due("their calls are found", calls > 30);
        namesEveryTest(text);
        Kit.end();
    }

    private static void take(String line) throws ReflectiveOperationException {
        if (line.isEmpty() || line.startsWith("//")) {
            return;
        }
        if (line.equals("ProbeLoom loom = new ProbeLoom();")) {
            loom = new ProbeLoom();
            objects++;
            return;
        }
        Matcher call = CALL.matcher(line);
        Kit.due("a call with its answer: " + line, call.matches());
        if (call.matches() && loom != null) {
            Kit.due(line, answer(call.group(1), call.group(2)), Integer.parseInt(call.group(3)));
            calls++;
        }
    }

    private static int answer(String name, String words) throws ReflectiveOperationException {
        String[] given = words.isEmpty() ? new String[0] : words.split(", *");
        for (Method m : ProbeLoom.class.getMethods()) {
            if (m.getName().equals(name) && m.getParameterCount() == given.length) {
                Object[] arguments = new Object[given.length];
                for (int i = 0; i < given.length; i++) {
                    arguments[i] = m.getParameterTypes()[i] == boolean.class
                            ? (Object) Boolean.valueOf(given[i]) : (Object) number(given[i]);
                }
                return (Integer) m.invoke(loom, arguments);
            }
        }
        Kit.due("there is a call " + name, false);
        return 0;
    }

    private static Integer number(String word) {
        return word.startsWith("0x") ? Integer.parseUnsignedInt(word.substring(2), 16) : Integer.parseInt(word);
    }

    private static void namesEveryTest(String text) throws IOException {
        Path source = Path.of(System.getProperty("probeloom.source", "src/main/java/ProbeLoom.java"));
        Path tests = source.toAbsolutePath().resolveSibling("../../test/java").normalize();
        try (var files = Files.list(tests)) {
            files.map(file -> file.getFileName().toString().replace(".java", ""))
                    .forEach(name -> Kit.due("README.md names " + name, text.contains("`" + name + "`")));
        }
    }
}
