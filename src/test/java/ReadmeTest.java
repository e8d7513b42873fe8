import java.io.IOException;
import java.lang.reflect.Method;
import java.net.URL;
import java.net.URLClassLoader;
import java.nio.file.Files;
import java.nio.file.Path;
import java.util.List;
import java.util.regex.Matcher;
import java.util.regex.Pattern;
import javax.tools.JavaCompiler;
import javax.tools.ToolProvider;

/** README.md's code compiles, and each answer that it shows is the one that the class gives. */
public final class ReadmeTest {
    private static final String CONSTANT = "NONE|UNKNOWN|OUTSIDE|NOT|FULL";
    private static final Pattern BLOCK = Pattern.compile("(?ms)^```java\n(.*?)^```$");
    private static final Pattern SHOWN = Pattern.compile("(x\\.\\w+\\(.*\\)); +// (-?\\d+|" + CONSTANT + ")(:.*)?");
    private static final Pattern ROW = Pattern.compile("(?m)^\\| `(" + CONSTANT + ")` *\\| (-\\d+) ");

    private ReadmeTest() {
    }

    public static void main(String[] args) throws IOException, ReflectiveOperationException {
        String page = Files.readString(Path.of("README.md"));
        everyCallIsNamed(page);
        constants(page);
        answers(page);
        Check.end();
    }

    private static void everyCallIsNamed(String page) {
        for (Method m : ClothPrices.class.getDeclaredMethods()) {
            if ((m.getModifiers() & java.lang.reflect.Modifier.PUBLIC) != 0) {
                Check.due("README.md names " + m.getName(), page.contains("`" + m.getName() + "`") ? 1 : 0, 1);
            }
        }
    }

    private static void constants(String page) throws ReflectiveOperationException {
        Matcher row = ROW.matcher(page);
        int rows = 0;
        while (row.find()) {
            rows++;
            Check.due("README.md: " + row.group(1), ClothPrices.class.getField(row.group(1)).getInt(null),
                Integer.parseInt(row.group(2)));
        }
        Check.due("README.md: how many refusals", rows, 4);
    }

    /** The page's blocks become one class: methods as they stand, all other lines in their order, answers held. */
    private static void answers(String page) throws IOException, ReflectiveOperationException {
        StringBuilder methods = new StringBuilder();
        StringBuilder lines = new StringBuilder();
        int shown = 0;
        Matcher block = BLOCK.matcher(page);
        while (block.find()) {
            if (block.group(1).startsWith("static")) {
                methods.append(block.group(1));
                continue;
            }
            for (String line : block.group(1).split("\n")) {
                Matcher answer = SHOWN.matcher(line);
                boolean isShown = answer.matches();
                shown += isShown ? 1 : 0;
                Check.due("README.md: an answer that can be read: " + line, isShown || !line.contains("//") ? 1 : 0, 1);
                lines.append(isShown ? held(answer.group(1), answer.group(2)) : line).append('\n');
            }
        }
        Check.due("README.md: it shows answers", shown > 30 ? 1 : 0, 1);
        for (Object wrong : run(source(methods.toString(), lines.toString()))) {
            Check.due("README.md: " + wrong, 0, 1);
        }
    }

    private static String held(String call, String answer) {
        String due = answer.matches(CONSTANT) ? "ClothPrices." + answer : answer;
        return "due(all, \"" + call.replace("\"", "\\\"") + "\", " + call + ", " + due + ");";
    }

    private static String source(String methods, String lines) {
        return "public final class Readme {\n" + methods
            + "static void due(java.util.List<String> all, String call, int got, int want) {\n"
            + "if (got != want) { all.add(call + \" answers \" + got + \", shown is \" + want); }\n}\n"
            + "public static java.util.List<String> wrong() {\n"
            + "java.util.List<String> all = new java.util.ArrayList<>();\n" + lines + "return all;\n}\n}\n";
    }

    private static List<?> run(String source) throws IOException, ReflectiveOperationException {
        Path dir = Files.createTempDirectory("readme");
        try {
            Path file = dir.resolve("Readme.java");
            Files.writeString(file, source);
            JavaCompiler javac = ToolProvider.getSystemJavaCompiler();
            int failed = javac.run(null, null, null, "--release", "17", "-cp", System.getProperty("java.class.path"),
                "-d", dir.toString(), file.toString());
            Check.due("README.md: its code compiles", failed, 0);
            if (failed != 0) {
                return List.of();
            }
            try (URLClassLoader loader = new URLClassLoader(new URL[] {dir.toUri().toURL()})) {
                return (List<?>) loader.loadClass("Readme").getMethod("wrong").invoke(null);
            }
        } finally {
            for (String name : new String[] {"Readme.java", "Readme.class"}) {
                Files.deleteIfExists(dir.resolve(name));
            }
            Files.deleteIfExists(dir);
        }
    }
}
