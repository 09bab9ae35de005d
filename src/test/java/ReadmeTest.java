import java.io.IOException;
import java.lang.reflect.Method;
import java.lang.reflect.Modifier;
import java.net.URL;
import java.net.URLClassLoader;
import java.nio.file.Files;
import java.nio.file.Path;
import java.util.ArrayList;
import java.util.List;
import java.util.regex.Matcher;
import java.util.regex.Pattern;
import javax.tools.ToolProvider;

/** The calls that README.md shows answer what stands behind them, and it shows each call of the face. */
public final class ReadmeTest {
    private static final Pattern BLOCK = Pattern.compile("(?s)```java\n(.*?)```");
    private static final Pattern ROW =
            Pattern.compile("(?:int (\\w+) = )?(light\\.\\w+\\(.*\\)); +// (throws \\w+|[-.0-9]+)(?::? .*)?");
    private static final String FIRST_ROW = "ArcLight light = new ArcLight();";

    public static void main(String[] args) throws IOException, ReflectiveOperationException {
        String readme = Files.readString(Path.of("README.md"));
        List<String> rows = rowsOf(readme);
        Check.due("the first row", rows.isEmpty() ? "none" : rows.remove(0), FIRST_ROW);
        List<String> wants = new ArrayList<>();
        String source = write(rows, wants);
        List<?> answers = answersOf(source);
        Check.due("answers", answers.size(), wants.size());
        for (int i = 0; i < answers.size() && i < wants.size(); i++) {
            Check.due("README.md, " + rows.get(i), answers.get(i), wants.get(i));
        }
        checkFace(readme);
        Check.end("ReadmeTest");
    }

    private static List<String> rowsOf(String readme) {
        List<String> rows = new ArrayList<>();
        Matcher block = BLOCK.matcher(readme);
        while (block.find()) {
            rows.addAll(List.of(block.group(1).split("\n")));
        }
        return rows;
    }

    /** A class that makes the rows' calls and keeps their answers; what they should be goes to wants. */
    private static String write(List<String> rows, List<String> wants) {
        StringBuilder source = new StringBuilder("public final class Example {\n")
                .append("public static java.util.List<String> answers() {\n")
                .append("java.util.List<String> told = new java.util.ArrayList<>();\n")
                .append(FIRST_ROW).append('\n');
        for (String text : rows) {
            Matcher row = ROW.matcher(text);
            Check.due("README.md, a call and its answer: " + text, row.matches(), true);
            if (row.matches()) {
                wants.add(row.group(3));
                source.append(row.group(1) == null ? telling(row.group(2))
                        : "int " + row.group(1) + " = " + row.group(2) + "; told.add(\"\" + " + row.group(1) + ");\n");
            }
        }
        return source.append("return told;\n}\n}\n").toString();
    }

    private static String telling(String call) {
        return "try { told.add(\"\" + " + call + "); } catch (RuntimeException thrown) {"
                + " told.add(\"throws \" + thrown.getClass().getSimpleName()); }\n";
    }

    private static List<?> answersOf(String source) throws IOException, ReflectiveOperationException {
        Path folder = Files.createTempDirectory("readme");
        Path file = folder.resolve("Example.java");
        try {
            Files.writeString(file, source);
            int code = ToolProvider.getSystemJavaCompiler().run(null, null, null, "-cp",
                    System.getProperty("java.class.path"), "-d", folder.toString(), file.toString());
            Check.due("README.md compiles, code", code, 0);
            return code == 0 ? answersIn(folder) : List.of();
        } finally {
            for (String name : new String[] {"Example.java", "Example.class"}) {
                Files.deleteIfExists(folder.resolve(name));
            }
            Files.deleteIfExists(folder);
        }
    }

    private static List<?> answersIn(Path folder) throws IOException, ReflectiveOperationException {
        URL[] places = {folder.toUri().toURL()};
        try (URLClassLoader loader = new URLClassLoader(places, ReadmeTest.class.getClassLoader())) {
            return (List<?>) loader.loadClass("Example").getMethod("answers").invoke(null);
        }
    }

    private static void checkFace(String readme) {
        for (Method method : ArcLight.class.getDeclaredMethods()) {
            if (Modifier.isPublic(method.getModifiers())) {
                Check.due("README.md shows " + method.getName(), readme.contains("light." + method.getName() + "("), true);
            }
        }
    }
}
