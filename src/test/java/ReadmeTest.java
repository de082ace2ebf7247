import java.io.IOException;
import java.lang.reflect.Field;
import java.lang.reflect.Method;
import java.net.URL;
import java.net.URLClassLoader;
import java.nio.file.Files;
import java.nio.file.Path;
import java.util.ArrayList;
import java.util.Comparator;
import java.util.List;
import java.util.regex.Matcher;
import java.util.regex.Pattern;
import java.util.stream.Stream;
import javax.tools.ToolProvider;

/**
 * README.md: its Java pieces, put together, are a program that compiles, and each call in it answers the number that
 * stands behind it; each call of the face is shown there, and each test is named (run from the project's folder).
 */
public final class ReadmeTest {
    private static final Check CHECK = new Check("ReadmeTest");
    private static final Path README = Path.of("README.md");
    private static final Path TESTS = Path.of("src/test/java");
    private static final Pattern NAMED = Pattern.compile("(int|long) (\\w+) = (.*);\\s*// (-?\\d+)(:.*)?");
    private static final Pattern UNNAMED = Pattern.compile("(bar\\..*);\\s*// (-?\\d+)(:.*)?");
    /** What has no number behind it: the object, the text and the loop that types it. */
    private static final List<String> NO_ANSWER = List.of("PuppetBar bar = new PuppetBar();",
        "for (int i = 0; i < text.length(); i++) {", "    bar.type(text.charAt(i));", "}");

    private final List<String> calls = new ArrayList<>();
    private final List<Long> due = new ArrayList<>();
    private final StringBuilder body = new StringBuilder();

    public static void main(String[] args) throws Exception {
        List<String> lines = Files.readAllLines(README);
        ReadmeTest test = new ReadmeTest();
        test.pieces(lines);
        test.run();
        test.showsEachCall();
        namesEachConstant(String.join(" ", lines));
        namesEachTest(String.join(" ", lines));
        CHECK.end();
    }

    private void pieces(List<String> lines) {
        boolean inside = false;
        for (String line : lines) {
            if (line.startsWith("```")) {
                inside = line.equals("```java");
            } else if (inside) {
                piece(line);
            }
        }
        CHECK.isTrue("README.md shows calls", !calls.isEmpty());
    }

    private void piece(String line) {
        Matcher named = NAMED.matcher(line);
        Matcher unnamed = UNNAMED.matcher(line);
        if (named.matches()) {
            answer(named.group(3), named.group(4));
            body.append(line).append("\nanswers.add((long) ").append(named.group(2)).append(");\n");
        } else if (unnamed.matches()) {
            answer(unnamed.group(1), unnamed.group(2));
            body.append("answers.add((long) ").append(unnamed.group(1)).append(");\n");
        } else {
            CHECK.isTrue("a number stands behind " + line, NO_ANSWER.contains(line)
                || line.startsWith("String text = "));
            body.append(line).append('\n');
        }
    }

    private void answer(String call, String number) {
        calls.add(call);
        due.add(Long.valueOf(number));
    }

    private void run() throws Exception {
        Path dir = Files.createTempDirectory("readme");
        try {
            List<?> got = answers(dir);
            CHECK.due("answers", got.size(), due.size());
            for (int i = 0; i < due.size() && i < got.size(); i++) {
                CHECK.due("README.md: " + calls.get(i), (Long) got.get(i), due.get(i));
            }
        } finally {
            remove(dir);
        }
    }

    /** What the pieces answer, as a class of their own. */
    private List<?> answers(Path dir) throws Exception {
        Path source = dir.resolve("ReadmePieces.java");
        Files.writeString(source, "public final class ReadmePieces {\n"
            + "public static java.util.List<Long> answers() {\n"
            + "java.util.List<Long> answers = new java.util.ArrayList<>();\n" + body + "return answers;\n}\n}\n");
        int failed = ToolProvider.getSystemJavaCompiler().run(null, null, null, "-proc:none", "-cp",
            System.getProperty("java.class.path"), "-d", dir.toString(), source.toString());
        CHECK.due("the pieces compile", failed, 0);
        if (failed != 0) {
            return List.of();
        }
        try (URLClassLoader loader = new URLClassLoader(new URL[] {dir.toUri().toURL()})) {
            return (List<?>) loader.loadClass("ReadmePieces").getMethod("answers").invoke(null);
        }
    }

    private static void remove(Path dir) throws IOException {
        try (Stream<Path> all = Files.walk(dir)) {
            for (Path path : all.sorted(Comparator.reverseOrder()).toArray(Path[]::new)) {
                Files.delete(path);
            }
        }
    }

    private void showsEachCall() {
        for (Method call : PuppetBar.class.getMethods()) {
            if (call.getDeclaringClass() == PuppetBar.class) {
                boolean shown = calls.stream().anyMatch(c -> c.startsWith("bar." + call.getName() + "("));
                CHECK.isTrue("README.md shows " + call.getName() + "()", shown);
            }
        }
    }

    private static void namesEachConstant(String readme) throws IllegalAccessException {
        for (Field constant : PuppetBar.class.getFields()) {
            String named = "`" + constant.getName() + "` (" + constant.getInt(null);
            CHECK.isTrue("README.md says " + named, readme.contains(named));
        }
    }

    private static void namesEachTest(String readme) throws IOException {
        try (Stream<Path> files = Files.list(TESTS)) {
            for (Path file : files.toArray(Path[]::new)) {
                String name = file.getFileName().toString().replace(".java", "");
                CHECK.isTrue("README.md names " + name, readme.contains("`" + name + "`"));
            }
        }
    }
}
