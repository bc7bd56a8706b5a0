import java.io.IOException;
import java.lang.reflect.InvocationTargetException;
import java.lang.reflect.Method;
import java.nio.charset.StandardCharsets;
import java.nio.file.Files;
import java.nio.file.Path;
import java.util.ArrayList;
import java.util.Comparator;
import java.util.LinkedHashMap;
import java.util.List;
import java.util.Map;

/** Runs the tests of a class that name their sentence, and looks the sentences up in the document. */
final class SentenceTests {
    private static final Path DOCUMENT = Path.of("..", "shared", "DOC.md");

    private final List<Method> tests = new ArrayList<>();
    private final Map<String, List<String>> sections = new LinkedHashMap<>();

    SentenceTests(Class<?> holder) {
        for (Method method : holder.getDeclaredMethods()) {
            if (method.isAnnotationPresent(Sentence.class)) {
                tests.add(method);
            }
        }
        tests.sort(Comparator.comparing(Method::getName));
        readDocument();
    }

    void run() {
        for (Method test : tests) {
            Sentence sentence = test.getAnnotation(Sentence.class);
            Check.context(test.getName() + " (" + sentence.in() + ", \"" + sentence.says() + "\"): ");
            lookUp(sentence);
            call(test);
        }
        Check.context("");
        System.out.println(tests.size() + " sentences tried");
    }

    /** A sentence of a promise that is quoted by no test is a wrong answer too. */
    void everyPromiseIsQuotedInFull() {
        for (Map.Entry<String, List<String>> section : sections.entrySet()) {
            if (section.getKey().startsWith("Promise ")) {
                for (String line : section.getValue()) {
                    Check.isTrue("no test for " + section.getKey() + ", \"" + line + "\"",
                            !needsATest(line) || isQuoted(section.getKey(), line));
                }
            }
        }
    }

    // Parameters without a bound of their own ("- `tour`: the tour") are not
    // sentences, and "Returns this." and "Returns d." say nothing by themselves.
    private static boolean needsATest(String line) {
        return line.startsWith("- `what`")
                || !line.isEmpty() && Character.isUpperCase(line.charAt(0))
                && !line.equals("Returns this.") && !line.equals("Returns d.");
    }

    private boolean isQuoted(String heading, String line) {
        return tests.stream().map(test -> test.getAnnotation(Sentence.class))
                .anyMatch(it -> names(heading, it.in()) && it.says().equals(line));
    }

    private static boolean names(String heading, String section) {
        return heading.equals(section) || heading.startsWith(section + ":");
    }

    private void lookUp(Sentence sentence) {
        boolean found = sections.isEmpty();
        for (Map.Entry<String, List<String>> section : sections.entrySet()) {
            found |= names(section.getKey(), sentence.in())
                    && section.getValue().stream().anyMatch(line -> line.contains(sentence.says()));
        }
        Check.isTrue("the document does not say this there", found);
    }

    private static void call(Method test) {
        try {
            test.setAccessible(true);
            test.invoke(null);
        } catch (InvocationTargetException e) {
            Check.fail("the test threw " + e.getCause());
        } catch (IllegalAccessException e) {
            Check.fail("the test cannot be called");
        }
    }

    private void readDocument() {
        if (!Files.exists(DOCUMENT)) {
            System.out.println("no " + DOCUMENT + ": its words are not compared to the tests'");
            return;
        }
        List<String> lines = new ArrayList<>();
        for (String line : documentLines()) {
            if (line.startsWith("## ")) {
                lines = new ArrayList<>();
                sections.put(line.substring(3), lines);
            } else {
                lines.add(line.strip().replaceFirst("^`[^`]*`: ", ""));
            }
        }
    }

    private static List<String> documentLines() {
        try {
            return Files.readAllLines(DOCUMENT, StandardCharsets.UTF_8);
        } catch (IOException e) {
            Check.fail("the document cannot be read");
            return List.of();
        }
    }
}
