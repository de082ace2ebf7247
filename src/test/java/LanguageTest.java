import java.io.IOException;
import java.nio.charset.StandardCharsets;
import java.nio.file.Files;
import java.nio.file.Path;
import java.util.regex.Matcher;
import java.util.regex.Pattern;

/** What a plain look at the source can tell of the language rules (run from the project's folder, as .ci/run does). */
public final class LanguageTest {
    private static final Check CHECK = new Check("LanguageTest");
    private static final String[] WORDS_RULED_OUT = {"throw", "throws", "try", "catch", "finally", "synchronized",
        "assert", "goto", "native", "volatile", "transient", "Object", "hashCode", "toString", "equals", "random",
        "currentTimeMillis", "nanoTime", "Thread", "HashMap", "Exact", "protected", "package", "NaN", "var"};

    public static void main(String[] args) throws IOException {
        String source = Files.readString(Path.of("src/main/java/PuppetBar.java"), StandardCharsets.US_ASCII);
        String code = source.replaceAll("(?s)/\\*.*?\\*/", "").replaceAll("//[^\n]*", "");
        for (String word : WORDS_RULED_OUT) {
            CHECK.isTrue("no " + word, !Pattern.compile("\\b" + word + "\\b").matcher(code).find());
        }
        CHECK.isTrue("no lambda", !code.contains("->"));
        CHECK.isTrue("no method reference", !code.contains("::"));
        CHECK.due("imports", code.split("\nimport |^import ", -1).length - 1, 1);
        CHECK.isTrue("the import", code.contains("import java.util.Arrays;"));
        CHECK.isTrue("no state that is static", !Pattern.compile("static (?!final)[\\w\\[\\]]+ \\w+ *[=;]")
            .matcher(code).find());
        CHECK.isTrue("no loop without an end",
            !Pattern.compile("while \\(true\\)|for \\(;|for \\([^;]*; *;").matcher(code).find());
        classes(code);
        methods(code);
        CHECK.end();
    }

    private static void classes(String code) {
        Matcher m = Pattern.compile("\\b(class|interface|enum|record) \\w+").matcher(code);
        int all = 0;
        while (m.find()) {
            all++;
        }
        CHECK.isTrue("at most twelve classes, found " + all, all <= 12);
    }

    private static void methods(String code) {
        String[] lines = code.split("\n");
        int begun = -1;
        String end = "";
        for (int i = 0; i < lines.length; i++) {
            Matcher m = Pattern.compile("^( {4}| {8})(?! )[\\w \\[\\]]*\\w+\\(([^()]*)\\) \\{$").matcher(lines[i]);
            if (begun < 0 && m.find() && !lines[i].trim().matches("(if|for|while|switch)\\b.*")) {
                begun = i;
                end = m.group(1) + "}";
                CHECK.isTrue("seven parameters at most: " + lines[i], m.group(2).split(",").length <= 7);
            } else if (begun >= 0 && lines[i].equals(end)) {
                CHECK.isTrue("sixty lines at most: " + lines[begun], i - begun < 60);
                begun = -1;
            }
        }
    }
}
