import java.lang.reflect.Method;
import java.lang.reflect.Modifier;
import java.nio.file.DirectoryStream;
import java.nio.file.Files;
import java.nio.file.Path;
import java.util.Set;
import java.util.TreeSet;
import java.util.regex.Matcher;
import java.util.regex.Pattern;

/** The calls that README.md shows are made as they stand there; each line tells the answer that is due. */
public final class ReadmeTest {
    private static final Check CHECK = new Check();
    private static final String MAKES = "PlankBridge bridge = new PlankBridge();";
    private static final Pattern CALL = Pattern.compile("bridge\\.(\\w+)\\(([^()]*)\\); +// (-?\\d+)(: .*)?");

    private static final Set<String> SHOWN = new TreeSet<>();
    private static PlankBridge bridge;

    private static Method called(String name) {
        for (Method method : PlankBridge.class.getDeclaredMethods()) {
            if (method.getName().equals(name) && Modifier.isPublic(method.getModifiers())) {
                return method;
            }
        }
        return null;
    }

    private static String[] split(String arguments) {
        return arguments.isBlank() ? new String[0] : arguments.split(", ");
    }

    /** A long is written with an L, so that the line compiles as it stands. */
    private static Object read(String text, Class<?> type) {
        if (type == long.class) {
            CHECK.holds(text + " is a long", text.endsWith("L"));
            return Long.decode(text.replace("L", ""));
        }
        return Integer.decode(text);
    }

    private static void call(String line, Matcher told) throws ReflectiveOperationException {
        Method method = called(told.group(1));
        String[] texts = split(told.group(2));
        if (bridge == null || method == null || method.getParameterCount() != texts.length) {
            CHECK.holds("a call that there is: " + line, false);
            return;
        }
        Object[] arguments = new Object[texts.length];
        for (int i = 0; i < texts.length; i++) {
            arguments[i] = read(texts[i], method.getParameterTypes()[i]);
        }
        SHOWN.add(method.getName());
        CHECK.due(line, (Integer) method.invoke(bridge, arguments), Integer.parseInt(told.group(3)));
    }

    private static void calls(String page) throws ReflectiveOperationException {
        CHECK.part("calls");
        boolean inCode = false;
        for (String line : page.split("\n")) {
            Matcher told = CALL.matcher(line);
            if (line.startsWith("```")) {
                inCode = line.equals("```java");
                bridge = null;
            } else if (inCode && line.equals(MAKES)) {
                bridge = new PlankBridge();
            } else if (inCode && told.matches()) {
                call(line, told);
            } else if (inCode) {
                CHECK.holds("a call and its answer: " + line, false);
            }
        }
    }

    private static void allCalls() {
        CHECK.part("every call is shown");
        for (Method method : PlankBridge.class.getDeclaredMethods()) {
            if (Modifier.isPublic(method.getModifiers())) {
                CHECK.holds(method.getName(), SHOWN.contains(method.getName()));
            }
        }
    }

    private static void allTests(String page) throws java.io.IOException {
        CHECK.part("how to run the tests");
        CHECK.holds("the script", page.contains("\n    .ci/run\n") && Files.isExecutable(Path.of(".ci/run")));
        try (DirectoryStream<Path> files = Files.newDirectoryStream(Path.of("src/test/java"), "*Test.java")) {
            for (Path file : files) {
                String name = file.getFileName().toString().replace(".java", "");
                CHECK.holds(name + " is told of", page.contains("`" + name + "`"));
            }
        }
    }

    public static void main(String[] args) throws Exception {
        String page = Files.readString(Path.of("README.md"));
        calls(page);
        allCalls();
        allTests(page);
        CHECK.end();
    }
}
