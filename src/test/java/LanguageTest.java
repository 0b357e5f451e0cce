import java.io.IOException;
import java.nio.charset.StandardCharsets;
import java.nio.file.Files;
import java.nio.file.Path;
import java.util.Set;
import java.util.TreeSet;
import java.util.regex.Matcher;
import java.util.regex.Pattern;

/** The rules of LANGUAGE.md that can be seen in the program's text. */
public final class LanguageTest {
    private static final Set<String> METHODS_OF_LIBRARY = Set.of(
        "Math.max", "Math.min", "Long.MIN_VALUE", "Long.MAX_VALUE", "Long.compare",
        "System.arraycopy", "Arrays.copyOf");

    public static void main(String[] args) throws IOException {
        String text = Files.readString(Path.of("src/main/java/StreamQueries.java"), StandardCharsets.UTF_8);
        String code = withoutCommentsAndTexts(text);
        words(code);
        library(code);
        methods(code);
        Probe.due("no byte above 127", text.chars().allMatch(c -> c < 128), true);
        Probe.end("LanguageTest");
    }

    private static String withoutCommentsAndTexts(String text) {
        return text.replaceAll("(?s)/\\*.*?\\*/", " ").replaceAll("//[^\n]*", " ").replaceAll("\"[^\"\n]*\"", "\"\"")
            .replaceAll("'[^']*'", "' '");
    }

    private static void absent(String code, String pattern) {
        Matcher m = Pattern.compile(pattern).matcher(code);
        Probe.due("'" + pattern + "' in the program", m.find() ? m.group() : "none", "none");
    }

    private static void words(String code) {
        String[] words = {"throw", "throws", "try", "catch", "finally", "synchronized", "assert", "package", "native",
            "volatile", "transient", "float", "double", "goto", "var", "yield", "Object", "Thread", "Random", "hashCode",
            "toString", "instanceof", "interface", "extends", "implements"};
        for (String w : words) {
            absent(code, "\\b" + w + "\\b");
        }
        absent(code, "->");
        absent(code, "::");
        absent(code, "@");
        absent(code, "\\w+Exact\\b");
        absent(code, "\\bstatic\\s*\\{");
        absent(code, "\\)\\s*\\{\\s*(public|private|@)");
        absent(code, "\"\\s*\\+|\\+\\s*\"");
        absent(code, "while\\s*\\(\\s*true|for\\s*\\(\\s*;\\s*;");
        absent(code, "\\[\\]\\s*\\[\\]");
        // Static fields are final constants.
        absent(code, "\\bstatic\\s+(?!final\\b)[\\w\\[\\]<>]+\\s+\\w+\\s*(=|;)");
        absent(code, "\\bclass\\s+\\w+\\s*<");
    }

    private static void library(String code) {
        TreeSet<String> imports = new TreeSet<>();
        Matcher m = Pattern.compile("\\bimport\\s+([\\w.]+);").matcher(code);
        while (m.find()) {
            imports.add(m.group(1));
        }
        imports.remove("java.util.ArrayList");
        imports.remove("java.util.Arrays");
        Probe.due("other imports", imports.toString(), "[]");
        m = Pattern.compile("\\b(Math|Long|Integer|System|Arrays|String|List)\\.(\\w+)").matcher(code);
        while (m.find()) {
            Probe.due(m.group() + " is of the library", METHODS_OF_LIBRARY.contains(m.group()), true);
        }
    }

    /** A method's head stands at 4 or 8 blanks, and so does its closing brace. */
    private static void methods(String code) {
        String[] lines = code.split("\n");
        for (int i = 0; i < lines.length; i++) {
            Matcher head = Pattern.compile("^( {4}(?! )| {8}(?! ))[\\w<>\\[\\] ]+\\(.*\\) \\{$").matcher(lines[i]);
            if (head.find()) {
                int end = i;
                while (end < lines.length && !lines[end].equals(head.group(1) + "}")) {
                    end++;
                }
                Probe.due("lines of " + lines[i].trim(), end - i + 1 <= 60, true);
            }
        }
    }
}
