import java.io.IOException;
import java.lang.reflect.Method;
import java.lang.reflect.Modifier;
import java.net.URL;
import java.net.URLClassLoader;
import java.nio.charset.StandardCharsets;
import java.nio.file.Files;
import java.nio.file.Path;
import java.util.ArrayList;
import java.util.List;
import java.util.regex.Matcher;
import java.util.regex.Pattern;
import javax.tools.JavaCompiler;
import javax.tools.ToolProvider;

/** What README.md shows under "Use" is true: a call with a number, true or false behind it answers that. */
public final class ReadmeTest {
    private static final Pattern TOLD = Pattern.compile("^(x\\.(\\w+)\\(.*\\)); *// (-?\\d+|true|false)\\b.*$");

    public static void main(String[] args) throws IOException, ReflectiveOperationException {
        String use = firstJavaBlock(Files.readString(Path.of("README.md"), StandardCharsets.UTF_8));
        StringBuilder body = new StringBuilder();
        int told = 0;
        for (String line : use.split("\n")) {
            Matcher m = TOLD.matcher(line);
            if (m.matches()) {
                told++;
                body.append("got.add(\"").append(m.group(1)).append(" \" + ").append(m.group(1)).append(");\n");
                body.append("due.add(\"").append(m.group(1)).append(" ").append(m.group(3)).append("\");\n");
            } else {
                body.append(line).append("\n");
            }
        }
        Probe.due("calls with their answers", told >= 20, true);
        everyCallIsShown(use);
        run(body.toString());
        Probe.end("ReadmeTest");
    }

    private static String firstJavaBlock(String text) {
        int start = text.indexOf("```java\n");
        int end = text.indexOf("\n```", start + 1);
        return start < 0 || end < 0 ? "" : text.substring(start + "```java\n".length(), end);
    }

    private static void everyCallIsShown(String use) {
        for (Method m : StreamQueries.class.getDeclaredMethods()) {
            if (Modifier.isPublic(m.getModifiers())) {
                Probe.due(m.getName() + " is shown", use.contains("x." + m.getName() + "("), true);
            }
        }
    }

    /** The example is made a class of its own, beside those of the test. */
    private static void run(String body) throws IOException, ReflectiveOperationException {
        Path room = Files.createTempDirectory("readme");
        Path file = room.resolve("Shown.java");
        Files.writeString(file, "public class Shown { public static void show(java.util.List<String> got,"
            + " java.util.List<String> due) {\n" + body + "} }\n");
        JavaCompiler compiler = ToolProvider.getSystemJavaCompiler();
        int refused = compiler.run(null, null, null, "-d", room.toString(), "-cp", System.getProperty("java.class.path"),
            file.toString());
        Probe.due("the example does not compile", refused, 0);
        List<String> got = new ArrayList<>();
        List<String> due = new ArrayList<>();
        if (refused == 0) {
            try (URLClassLoader loader = new URLClassLoader(new URL[] {room.toUri().toURL()})) {
                loader.loadClass("Shown").getMethod("show", List.class, List.class).invoke(null, got, due);
            }
        }
        for (int i = 0; i < due.size(); i++) {
            Probe.due("README.md", got.get(i), due.get(i));
        }
        Files.deleteIfExists(room.resolve("Shown.class"));
        Files.deleteIfExists(file);
        Files.deleteIfExists(room);
    }
}
