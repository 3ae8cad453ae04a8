import java.io.IOException;
import java.lang.reflect.Method;
import java.lang.reflect.Modifier;
import java.nio.file.Files;
import java.nio.file.Path;
import java.util.HashSet;
import java.util.Map;
import java.util.Set;
import java.util.TreeMap;
import java.util.TreeSet;
import java.util.regex.Matcher;
import java.util.regex.Pattern;
import java.util.stream.Stream;

/**
 * What README.md shows is so: its examples answer what they say, and show each call and each
 * of its exceptions; its tables tell the calls of the face, by the document's numbers; and
 * its list of tests names them all.
 */
final class ReadmeTest {

    private static final Path README = Path.of("README.md");
    private static final Path DOCUMENT = Path.of("../shared/DOC.md");
    private static final Path TESTS = Path.of("src/test/java");

    private static final Pattern ROW = Pattern.compile(
            "(?m)^\\| (\\d+) \\| `(\\w+)\\(([^)]*)\\)` \\| (.*) \\| (.*) \\|$");
    private static final Pattern EXCEPTION = Pattern.compile("\\w+Exception");
    private static final Pattern PRINTED = Pattern.compile("```text\n(.*?)```", Pattern.DOTALL);

    private static final Check check = new Check("ReadmeTest");

    public static void main(String[] args) throws IOException, ReflectiveOperationException {
        String readme = Files.readString(README);
        ReadmeExamples examples = new ReadmeExamples(readme);
        examples.run();
        answers(examples);
        allIsShown(examples);
        check.same("what the program prints", examples.printed, first(PRINTED, readme));
        rows(readme);
        tests(readme);
        check.end();
    }

    private static void answers(ReadmeExamples examples) {
        check.same("comments that tell no answer", examples.notRead.toString(), "[]");
        check.same("lines run", examples.got.size(), examples.lines.size());
        for (int i = 0; i < examples.got.size() && i < examples.lines.size(); i++) {
            ReadmeExamples.Line line = examples.lines.get(i);
            check.same("line " + i + ", " + line.call(), examples.got.get(i), line.due());
        }
    }

    /** Each call has an example that answers, and one for each of its exceptions. */
    private static void allIsShown(ReadmeExamples examples) {
        Set<String> shown = new HashSet<>();
        for (ReadmeExamples.Line line : examples.lines) {
            String name = line.call().substring(2, line.call().indexOf('('));
            shown.add(name + (line.due().startsWith("throws") ? " " + line.due() : ""));
        }
        for (Method method : face().values()) {
            check.same(method.getName() + " is shown",
                    shown.contains(method.getName()) ? 1 : 0, 1);
            for (Class<?> type : method.getExceptionTypes()) {
                String due = method.getName() + " throws " + type.getSimpleName();
                check.same(due + ", is shown", shown.contains(due) ? 1 : 0, 1);
            }
        }
    }

    private static void rows(String readme) throws IOException {
        Map<String, Method> left = face();
        String document = Files.isReadable(DOCUMENT) ? Files.readString(DOCUMENT) : "";
        Matcher row = ROW.matcher(readme);
        while (row.find()) {
            String name = row.group(2);
            Method method = left.remove(name);
            check.same("one row for " + name, method == null ? 0 : 1, 1);
            if (method != null) {
                check.same("the arguments of " + name, row.group(3).isEmpty()
                        ? 0 : row.group(3).split(", ").length, method.getParameterCount());
                check.same("the exceptions of " + name, named(row.group(5)), declared(method));
            }
            if (!document.isEmpty()) {
                inDocument(document, row);
            }
        }
        check.same("calls without a row", left.keySet().toString(), "[]");
    }

    private static void inDocument(String document, Matcher row) {
        String title = "\n## Promise " + row.group(1) + ": " + row.group(2) + "\n";
        int at = document.indexOf(title);
        check.same("the document has " + title.strip(), at >= 0 ? 1 : 0, 1);
        if (at >= 0) {
            String section = document.substring(at + title.length()).split("\n## ")[0];
            check.same(row.group(2) + "(" + row.group(3) + ") stands there",
                    section.contains(row.group(2) + "(" + typed(row.group(3)) + ")") ? 1 : 0, 1);
            check.same(row.group(2) + " is undoable", row.group(4).contains("undoable") ? 1 : 0,
                    section.contains("Undoable") ? 1 : 0);
        }
    }

    private static String typed(String names) {
        return names.isEmpty() ? "" : "int " + names.replace(", ", ", int ");
    }

    private static String named(String cell) {
        StringBuilder names = new StringBuilder();
        Matcher name = EXCEPTION.matcher(cell);
        while (name.find()) {
            names.append(name.group()).append(' ');
        }
        return names.toString();
    }

    private static String declared(Method method) {
        StringBuilder names = new StringBuilder();
        for (Class<?> type : method.getExceptionTypes()) {
            names.append(type.getSimpleName()).append(' ');
        }
        return names.toString();
    }

    private static Map<String, Method> face() {
        Map<String, Method> all = new TreeMap<>();
        for (Method method : PickedForms.class.getDeclaredMethods()) {
            if (Modifier.isPublic(method.getModifiers())) {
                all.put(method.getName(), method);
            }
        }
        return all;
    }

    private static String first(Pattern pattern, String text) {
        Matcher matcher = pattern.matcher(text);
        return matcher.find() ? matcher.group(1) : "";
    }

    private static void tests(String readme) throws IOException {
        Set<String> named = new TreeSet<>();
        Matcher name = Pattern.compile("`(\\w+Test)`").matcher(readme);
        while (name.find()) {
            named.add(name.group(1));
        }
        Set<String> there = new TreeSet<>();
        try (Stream<Path> files = Files.list(TESTS)) {
            for (Path file : files.toList()) {
                String test = file.getFileName().toString();
                if (test.endsWith("Test.java")) {
                    there.add(test.substring(0, test.length() - ".java".length()));
                }
            }
        }
        check.same("the tests in the table", named.toString(), there.toString());
    }
}
