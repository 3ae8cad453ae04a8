import java.io.ByteArrayOutputStream;
import java.io.IOException;
import java.io.PrintStream;
import java.lang.reflect.Method;
import java.net.URL;
import java.net.URLClassLoader;
import java.nio.charset.StandardCharsets;
import java.nio.file.Files;
import java.nio.file.Path;
import java.util.ArrayList;
import java.util.Comparator;
import java.util.List;
import java.util.regex.Matcher;
import java.util.regex.Pattern;
import java.util.stream.Stream;
import javax.tools.JavaCompiler;
import javax.tools.ToolProvider;

/**
 * The Java that README.md shows, compiled as it stands there and run. A line whose comment
 * tells an answer is kept with what it answered; other lines are run as they are.
 */
final class ReadmeExamples {

    /** A line with an answer: the call, and what README.md says that it answers. */
    record Line(String call, String due) {
    }

    private static final Pattern JAVA = Pattern.compile("```java\n(.*?)```", Pattern.DOTALL);
    private static final Pattern PROGRAM = Pattern.compile("public final class (\\w+) ");
    private static final Pattern ANSWERED = Pattern.compile(
            "\\s*(x\\.\\w+\\(.*?\\));\\s+// (throws \\w+|-?\\d[\\d.]*)(: .*)?");

    final List<Line> lines = new ArrayList<>();
    final List<String> notRead = new ArrayList<>();
    final List<String> got = new ArrayList<>();
    /** What the whole program prints. */
    String printed = "";

    private final StringBuilder body = new StringBuilder();
    private String program = "";
    private String programName = "";

    ReadmeExamples(String readme) {
        Matcher blocks = JAVA.matcher(readme);
        while (blocks.find()) {
            Matcher name = PROGRAM.matcher(blocks.group(1));
            if (name.find()) {
                programName = name.group(1);
                program = blocks.group(1);
            } else {
                addBlock(blocks.group(1));
            }
        }
    }

    private void addBlock(String block) {
        body.append("{\n");
        for (String line : block.split("\n")) {
            Matcher answered = ANSWERED.matcher(line);
            if (answered.matches()) {
                lines.add(new Line(answered.group(1), answered.group(2)));
                body.append("try { got.add(String.valueOf(").append(answered.group(1))
                        .append(")); } catch (RuntimeException e) {")
                        .append(" got.add(\"throws \" + e.getClass().getSimpleName()); }\n");
            } else {
                if (line.contains("//")) {
                    notRead.add(line);
                }
                body.append(line).append('\n');
            }
        }
        body.append("}\n");
    }

    void run() throws IOException, ReflectiveOperationException {
        Path directory = Files.createTempDirectory("readme");
        try {
            Path examples = directory.resolve("Examples.java");
            Files.writeString(examples, "public final class Examples {\n"
                    + "public static void run(java.util.List<String> got) {\n" + body + "}\n}\n");
            Path whole = directory.resolve(programName + ".java");
            Files.writeString(whole, program);
            compile(directory, examples, whole);
            runCompiled(directory);
        } finally {
            delete(directory);
        }
    }

    private static void compile(Path directory, Path... files) {
        JavaCompiler compiler = ToolProvider.getSystemJavaCompiler();
        List<String> words = new ArrayList<>(List.of("--release", "17", "-cp",
                System.getProperty("java.class.path"), "-d", directory.toString()));
        for (Path file : files) {
            words.add(file.toString());
        }
        if (compiler.run(null, null, null, words.toArray(new String[0])) != 0) {
            throw new IllegalStateException("the Java in README.md does not compile");
        }
    }

    private void runCompiled(Path directory) throws IOException, ReflectiveOperationException {
        URL[] place = {directory.toUri().toURL()};
        try (URLClassLoader loader = new URLClassLoader(place, getClass().getClassLoader())) {
            loader.loadClass("Examples").getMethod("run", List.class).invoke(null, got);
            Method main = loader.loadClass(programName).getMethod("main", String[].class);
            ByteArrayOutputStream bytes = new ByteArrayOutputStream();
            PrintStream screen = System.out;
            System.setOut(new PrintStream(bytes, true, StandardCharsets.UTF_8));
            try {
                main.invoke(null, (Object) new String[0]);
            } finally {
                System.setOut(screen);
            }
            printed = bytes.toString(StandardCharsets.UTF_8).replace("\r\n", "\n");
        }
    }

    private static void delete(Path directory) throws IOException {
        try (Stream<Path> all = Files.walk(directory)) {
            for (Path path : all.sorted(Comparator.reverseOrder()).toList()) {
                Files.delete(path);
            }
        }
    }
}
