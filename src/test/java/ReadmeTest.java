import java.io.IOException;
import java.lang.reflect.Method;
import java.lang.reflect.Modifier;
import java.net.URL;
import java.net.URLClassLoader;
import java.nio.file.Files;
import java.nio.file.Path;
import java.util.ArrayList;
import java.util.List;
import java.util.function.Supplier;
import java.util.regex.Matcher;
import java.util.regex.Pattern;
import javax.tools.ToolProvider;

/** README.md: its example answers what it says behind each call, and it names every call of the public face. */
public final class ReadmeTest {
    /** A line of the example, like 'screen.column();  // 2: why'. */
    private static final Pattern LINE = Pattern.compile("(?m)^(screen\\..*); +// (true|false|-?[0-9]+)\\b.*$");

    private static String exampleClass(List<String> calls) {
        return "public class Example implements java.util.function.Supplier<java.util.List<Object>> {\n"
            + "public java.util.List<Object> get() {\n"
            + "TerminalStack screen = new TerminalStack();\n"
            + "return java.util.List.of(" + String.join(",\n", calls) + ");\n}}\n";
    }

    private static Object answers(List<String> calls, Path folder) throws Exception {
        Path source = Files.writeString(folder.resolve("Example.java"), exampleClass(calls));
        String classes = System.getProperty("java.class.path");
        int code = ToolProvider.getSystemJavaCompiler().run(null, null, null, "-cp", classes, "-d", folder.toString(), source.toString());
        Check.due("the example compiles", code, 0);
        try (URLClassLoader loader = new URLClassLoader(new URL[] {folder.toUri().toURL()})) {
            return ((Supplier<?>) loader.loadClass("Example").getDeclaredConstructor().newInstance()).get();
        }
    }

    private static void example(String readme) throws Exception {
        List<String> calls = new ArrayList<>();
        List<String> due = new ArrayList<>();
        Matcher line = LINE.matcher(readme);
        while (line.find()) {
            calls.add(line.group(1));
            due.add(line.group(2));
        }
        long written = readme.lines().filter(text -> text.startsWith("screen.")).count();
        Check.due("lines of the example with an answer", (long) calls.size(), written);
        Path folder = Files.createTempDirectory("readme");
        try {
            Check.due("the answers to " + calls, answers(calls, folder).toString(), due.toString());
        } finally {
            remove(folder);
        }
    }

    private static void remove(Path folder) throws IOException {
        Files.deleteIfExists(folder.resolve("Example.java"));
        Files.deleteIfExists(folder.resolve("Example.class"));
        Files.delete(folder);
    }

    private static void everyCall(String readme) {
        for (Method method : TerminalStack.class.getDeclaredMethods()) {
            if (Modifier.isPublic(method.getModifiers())) {
                Check.due("README.md names " + method.getName(), readme.contains("`" + method.getName() + "("), true);
            }
        }
    }

    public static void main(String[] args) throws Exception {
        String readme = Files.readString(Path.of("README.md"));
        example(readme);
        everyCall(readme);
        Check.end();
    }
}
