import java.io.IOException;
import java.lang.reflect.Method;
import java.lang.reflect.Modifier;
import java.net.URL;
import java.net.URLClassLoader;
import java.nio.charset.StandardCharsets;
import java.nio.file.Files;
import java.nio.file.Path;
import java.util.ArrayList;
import java.util.List;
import java.util.regex.Matcher;
import java.util.regex.Pattern;
import javax.tools.ToolProvider;

/** README.md's example is compiled and run; each line answers the number that stands behind it. */
public final class ReadmeTest {
    private static final Pattern CALL =
            Pattern.compile("(?:int|long|double) (\\w+) = (land\\.\\w+\\(.*\\)); +// (-?[0-9.]+)(?::.*)?");

    private final List<String> lines = new ArrayList<>();
    private final List<String> calls = new ArrayList<>();
    private final List<String> names = new ArrayList<>();
    private final List<String> due = new ArrayList<>();

    public static void main(String[] args) throws IOException, ReflectiveOperationException {
        ReadmeTest test = new ReadmeTest();
        test.readExample();
        test.hasEachMethod();
        test.answersAsWritten();
        Check.end();
    }

    private void readExample() throws IOException {
        String text = Files.readString(Path.of("README.md"), StandardCharsets.UTF_8);
        int start = text.indexOf("```java\n") + "```java\n".length();
        for (String line : text.substring(start, text.indexOf("```", start)).split("\n")) {
            lines.add(line);
            Matcher call = CALL.matcher(line);
            if (call.matches()) {
                names.add(call.group(1));
                calls.add(call.group(2));
                due.add(call.group(3));
            }
        }
        Check.equal("lines that tell no answer, beside the first", lines.size() - calls.size() - 1, 0);
    }

    private void hasEachMethod() {
        for (Method method : BlossomTours.class.getDeclaredMethods()) {
            String begin = "land." + method.getName() + "(";
            Check.isTrue("README's example has no " + method.getName(),
                    !Modifier.isPublic(method.getModifiers())
                    || calls.stream().anyMatch(call -> call.startsWith(begin)));
        }
    }

    private void answersAsWritten() throws IOException, ReflectiveOperationException {
        Path room = Files.createTempDirectory("readme");
        Path source = room.resolve("ReadmeExample.java");
        Files.writeString(source, program(), StandardCharsets.UTF_8);
        int code = ToolProvider.getSystemJavaCompiler().run(null, null, null,
                "-cp", System.getProperty("java.class.path"), "-d", room.toString(), source.toString());
        Check.equal("compiling README's example", code, 0);
        if (code == 0) {
            compareAnswers(room);
        }
        delete(room);
    }

    private String program() {
        return "public final class ReadmeExample {\n"
                + "public static String[] answers() {\n"
                + String.join("\n", lines) + "\n"
                + "return new String[] {\"\" + " + String.join(", \"\" + ", names) + "};\n}\n}\n";
    }

    private void compareAnswers(Path room) throws IOException, ReflectiveOperationException {
        try (URLClassLoader loader = new URLClassLoader(new URL[] {room.toUri().toURL()})) {
            String[] got = (String[]) loader.loadClass("ReadmeExample").getMethod("answers").invoke(null);
            for (int i = 0; i < got.length; i++) {
                Check.isTrue("README: " + calls.get(i) + " answered " + got[i] + ", written is " + due.get(i),
                        got[i].equals(due.get(i)));
            }
        }
    }

    private static void delete(Path room) throws IOException {
        Files.deleteIfExists(room.resolve("ReadmeExample.java"));
        Files.deleteIfExists(room.resolve("ReadmeExample.class"));
        Files.delete(room);
    }
}
