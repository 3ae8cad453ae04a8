import java.io.IOException;
import java.lang.reflect.Method;
import java.nio.file.Files;
import java.nio.file.Path;
import java.util.LinkedHashMap;
import java.util.Map;

/**
 * The edge tests quote the document word for word, each within its own promise or the terms,
 * and every sentence of the document is quoted by one of them. Where the document is not at
 * hand, there is nothing to compare.
 */
final class QuotesTest {

    private static final Path DOCUMENT = Path.of("../shared/DOC.md");
    private static final Class<?>[] TESTS = {WritingEdgesTest.class, BlocksEdgesTest.class,
        TextsEdgesTest.class, LooksEdgesTest.class, MatchEdgesTest.class, WhatIfEdgesTest.class};

    private static final Check check = new Check("QuotesTest");
    /** The text of each section by its title; what is quoted of it is taken out. */
    private static final Map<String, StringBuilder> left = new LinkedHashMap<>();
    private static final Map<String, String> whole = new LinkedHashMap<>();

    public static void main(String[] args) throws IOException {
        if (Files.isReadable(DOCUMENT)) {
            read(Files.readString(DOCUMENT));
            for (Class<?> tests : TESTS) {
                for (Method test : Edges.of(tests)) {
                    takeOut(test);
                }
            }
            allIsQuoted();
        }
        check.end();
    }

    private static void read(String document) {
        for (String section : document.split("\n## ")) {
            String title = section.substring(0, section.indexOf('\n'));
            int bound = section.indexOf("An object is used");
            if (title.startsWith("Promise") || title.equals("Terms")) {
                put(title, withoutFrame(section.substring(title.length())));
            } else if (title.equals("What it is") && bound >= 0) {
                put("Terms: the bound of calls", section.substring(bound));
            }
        }
    }

    private static void put(String title, String text) {
        whole.put(title, spaced(text));
        left.put(title, new StringBuilder(spaced(text)));
    }

    /** Without headings, the calls' own lines (FaceTest tells of these), and comments' places. */
    private static String withoutFrame(String section) {
        return section.replaceAll("(?m)^### .*$", "")
                .replaceAll("(?m)^`[^`]*\\(.*?\\)[^`]*`:", "")
                .replaceAll("(?m)^Ahead of the calls .* the interface says: "
                        + "(?!.*nothing is changed).*$", "")
                .replaceAll("(?m)^Ahead of the calls .* the interface says: ", "")
                .replace("Picking a form, room\n", "")
                .replace("The constants:", "");
    }

    private static String spaced(String text) {
        return text.replaceAll("\\s+", " ");
    }

    private static void takeOut(Method test) {
        String name = test.getName();
        check.same(name + " is named after its promise",
                name.matches("promise(0[1-9]|[12][0-9])_.+") ? 1 : 0, 1);
        String own = "Promise " + Integer.parseInt(name.substring(7, 9)) + ":";
        for (String quote : test.getAnnotation(Says.class).value()) {
            boolean found = false;
            for (Map.Entry<String, String> section : whole.entrySet()) {
                String title = section.getKey();
                if (title.startsWith(own) || title.startsWith("Terms")) {
                    found |= takeOut(title, section.getValue(), quote);
                }
            }
            check.same(name + " quotes the document: " + quote, found ? 1 : 0, 1);
        }
    }

    private static boolean takeOut(String title, String text, String quote) {
        int at = text.indexOf(quote);
        for (int i = at; at >= 0 && i < at + quote.length(); i++) {
            left.get(title).setCharAt(i, ' ');
        }
        return at >= 0;
    }

    private static void allIsQuoted() {
        for (Map.Entry<String, StringBuilder> section : left.entrySet()) {
            check.same("not quoted of " + section.getKey(),
                    section.getValue().toString().replaceAll("[\\s-]+", " ").strip(), "");
        }
    }
}
