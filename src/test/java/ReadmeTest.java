import java.io.IOException;
import java.lang.reflect.Method;
import java.lang.reflect.Modifier;
import java.net.URL;
import java.net.URLClassLoader;
import java.nio.file.Files;
import java.nio.file.Path;
import java.util.ArrayList;
import java.util.List;
import java.util.regex.Matcher;
import java.util.regex.Pattern;
import java.util.stream.Stream;
import javax.tools.ToolProvider;

/** README.md: its lines of Java compile and answer what stands behind them, and it tells of every call and test. */
public final class ReadmeTest {
    /** A call alone on its line, and the answer that its comment begins with. */
    private static final Pattern ANSWERED =
            Pattern.compile("(\\w+\\.\\w+\\(.*\\));\\s*// (true|false|-?\\d+)(:.*)?");

    public static void main(String[] args) throws Exception {
        String readme = Files.readString(Path.of("README.md"));
        List<String> lines = javaLines(readme);
        everyCallIsShown(String.join("\n", lines));
        everyTestIsNamed(readme);
        Due.yes("the command that runs the tests", readme.contains("\n    .ci/run\n"));
        run(lines);
        Due.end();
    }

    private static List<String> javaLines(String readme) {
        List<String> lines = new ArrayList<>();
        boolean inJava = false;
        for (String line : readme.split("\n")) {
            if (line.startsWith("```")) {
                inJava = line.equals("```java");
            } else if (inJava) {
                lines.add(line);
            }
        }
        return lines;
    }

    private static void everyCallIsShown(String code) {
        Due.yes("the constructor is shown", code.contains("new ModulePlayer("));
        for (Method m : ModulePlayer.class.getDeclaredMethods()) {
            boolean isFace = Modifier.isPublic(m.getModifiers());
            Due.yes(m.getName() + " is shown", !isFace || code.contains("." + m.getName() + "("));
        }
    }

    private static void everyTestIsNamed(String readme) throws IOException {
        try (Stream<Path> files = Files.list(Path.of("src/test/java"))) {
            for (Path file : files.toList()) {
                String name = file.getFileName().toString().replace(".java", "");
                Due.yes(name + " is named", !name.endsWith("Test") || readme.contains("`" + name + "`"));
            }
        }
    }

    private static void run(List<String> lines) throws Exception {
        Path folder = Files.createTempDirectory("readme");
        Path source = folder.resolve("ReadmeLines.java");
        Files.writeString(source, classOf(lines));
        int failed = ToolProvider.getSystemJavaCompiler().run(null, null, null, "-d", folder.toString(),
                "-cp", System.getProperty("java.class.path"), source.toString());
        Due.is("compiling README.md's lines", failed, 0);
        if (failed == 0) {
            try (URLClassLoader loader = new URLClassLoader(new URL[] {folder.toUri().toURL()})) {
                compare((List<?>) loader.loadClass("ReadmeLines").getMethod("answers").invoke(null), lines);
            }
        }
        try (Stream<Path> left = Files.walk(folder)) {
            left.sorted((a, b) -> b.compareTo(a)).forEach(path -> path.toFile().delete());
        }
    }

    /** The lines as a method that tells the answer of each call that has one behind it. */
    private static String classOf(List<String> lines) {
        StringBuilder text = new StringBuilder("public class ReadmeLines { public static java.util.List<String> answers() {\n"
                + "java.util.List<String> answers = new java.util.ArrayList<>();\n");
        for (String line : lines) {
            Matcher m = ANSWERED.matcher(line);
            text.append(m.matches() ? "answers.add(\"\" + " + m.group(1) + ");" : line).append('\n');
        }
        return text.append("return answers; } }\n").toString();
    }

    private static void compare(List<?> answers, List<String> lines) {
        int next = 0;
        for (String line : lines) {
            Matcher m = ANSWERED.matcher(line);
            if (m.matches()) {
                Object answer = answers.get(next++);
                Due.yes(m.group(1) + " (" + answer + ", README.md: " + m.group(2) + ")", m.group(2).equals(answer));
            }
        }
        Due.yes("lines with an answer", next >= 20);
    }
}
