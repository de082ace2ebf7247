import java.io.IOException;
import java.lang.reflect.Constructor;
import java.lang.reflect.Field;
import java.lang.reflect.Method;
import java.lang.reflect.Modifier;
import java.nio.file.Files;
import java.nio.file.Path;
import java.util.ArrayList;
import java.util.Arrays;
import java.util.List;
import java.util.Map;
import java.util.Set;
import java.util.TreeMap;
import java.util.TreeSet;
import java.util.regex.Matcher;
import java.util.regex.Pattern;
import java.util.stream.Collectors;

/**
 * The public face as the document writes it out, line by line, and rule 1 of the language: nothing beside it can be
 * seen from outside (run from the project's folder, as .ci/run does).
 */
public final class FaceTest {
    private static final Check CHECK = new Check("FaceTest");
    private static final Path DOCUMENT = Path.of("../shared/DOC.md");
    private static final int PROMISES = 33;

    private final String document;
    private final Set<String> calls = new TreeSet<>();
    private final Map<String, Integer> constants = new TreeMap<>();
    private boolean constructor;

    private FaceTest(String document) {
        this.document = document;
    }

    public static void main(String[] args) throws IOException {
        FaceTest test = new FaceTest(Files.readString(DOCUMENT));
        constantsByHand();
        test.readFace();
        test.callsAreThose();
        test.constantsAreThose();
        test.promisesAreOfTheFace();
        fields();
        constructors();
        test.namesOfPrivateMethods();
        CHECK.end();
    }

    private static void constantsByHand() {
        CHECK.sentence("BAD = -1, STATE = -2, FULL = -3, NONE = -9, NO = -1000000");
        CHECK.due("BAD", PuppetBar.BAD, -1);
        CHECK.due("STATE", PuppetBar.STATE, -2);
        CHECK.due("FULL", PuppetBar.FULL, -3);
        CHECK.due("NONE", PuppetBar.NONE, -9);
        CHECK.due("NO", PuppetBar.NO, -1000000);
    }

    private void readFace() {
        CHECK.sentence("public final class PuppetBar");
        int begin = document.indexOf("```java", document.indexOf("## The public face"));
        int end = document.indexOf("\n```", begin);
        CHECK.isTrue("the document writes the face out", begin >= 0 && end >= 0);
        CHECK.isTrue("public final", PuppetBar.class.getModifiers() == (Modifier.PUBLIC | Modifier.FINAL));
        for (String line : begin < 0 || end < 0 ? new String[0] : document.substring(begin, end).split("\n")) {
            readLine(line.trim());
        }
    }

    private void readLine(String line) {
        Matcher constant = Pattern.compile("(\\w+) = (-?\\d+)").matcher(line);
        while (constant.find()) {
            constants.put(constant.group(1), Integer.valueOf(constant.group(2)));
        }
        Matcher call = Pattern.compile("public (int|long) (\\w+)\\((.*)\\);").matcher(line);
        if (call.matches()) {
            calls.add(call.group(1) + " " + call.group(2) + "(" + withoutNames(call.group(3)) + ")");
        }
        constructor |= line.equals("public PuppetBar();");
    }

    private static String withoutNames(String parameters) {
        return parameters.replaceAll("(int|long) \\w+", "$1");
    }

    private static String writtenOut(Method m) {
        return m.getReturnType() + " " + m.getName() + "("
            + Arrays.stream(m.getParameterTypes()).map(Class::toString).collect(Collectors.joining(", ")) + ")";
    }

    private void callsAreThose() {
        CHECK.sentence("The public face: the methods, with their types");
        CHECK.due("methods in the document", calls.size(), PROMISES - 1);
        Set<String> found = new TreeSet<>();
        for (Method m : PuppetBar.class.getDeclaredMethods()) {
            boolean isPublic = m.getModifiers() == Modifier.PUBLIC;
            CHECK.isTrue(m + " is public or private", isPublic || Modifier.isPrivate(m.getModifiers()));
            if (isPublic) {
                found.add(writtenOut(m));
            }
        }
        for (String call : calls) {
            CHECK.isTrue(call + " is in the class", found.contains(call));
        }
        for (String call : found) {
            CHECK.isTrue(call + " is in the document", calls.contains(call));
        }
        CHECK.isTrue("the constructor is in the document", constructor);
    }

    private void constantsAreThose() {
        CHECK.sentence("The public face: the constants and their values");
        Set<String> found = new TreeSet<>();
        for (Field f : PuppetBar.class.getFields()) {
            found.add(f.getName());
            CHECK.isTrue(f + " is an int", f.getType() == int.class);
            CHECK.isTrue(f + " is in the document", constants.containsKey(f.getName()));
            CHECK.due(f.getName(), valueOf(f), constants.getOrDefault(f.getName(), 0));
        }
        CHECK.isTrue("found " + found + ", due is " + constants.keySet(), found.equals(constants.keySet()));
    }

    private static int valueOf(Field f) {
        try {
            return f.getInt(null);
        } catch (IllegalAccessException e) {
            throw new IllegalStateException(f + " can't be read", e);
        }
    }

    /** Each promise from 2 on is of one call; together they are the whole face. */
    private void promisesAreOfTheFace() {
        CHECK.sentence("Promise 1: A new object .. Promise 33: trace");
        Matcher promise = Pattern.compile("## Promise (\\d+): .*\n\n`(.*?)\\((.*?)\\)`").matcher(document);
        List<String> promised = new ArrayList<>();
        while (promise.find()) {
            CHECK.due("promise", Integer.parseInt(promise.group(1)), promised.size() + 1);
            promised.add(promise.group(2) + "(" + withoutNames(promise.group(3)) + ")");
        }
        CHECK.due("promises", promised.size(), PROMISES);
        CHECK.isTrue("the first is the constructor's", promised.remove("PuppetBar()"));
        CHECK.isTrue("the others are the calls'", new TreeSet<>(promised).equals(calls));
    }

    private static void fields() {
        CHECK.sentence("rule 1: no other public, protected or package-visible member");
        for (Field f : PuppetBar.class.getDeclaredFields()) {
            boolean isConstant = f.getModifiers() == (Modifier.PUBLIC | Modifier.STATIC | Modifier.FINAL);
            CHECK.isTrue(f + " is a constant or private", isConstant || Modifier.isPrivate(f.getModifiers()));
            CHECK.isTrue(f + " is no static state",
                !Modifier.isStatic(f.getModifiers()) || Modifier.isFinal(f.getModifiers()));
        }
    }

    private static void constructors() {
        CHECK.sentence("public PuppetBar()");
        Constructor<?>[] all = PuppetBar.class.getDeclaredConstructors();
        CHECK.due("constructors", all.length, 1);
        CHECK.due("parameters", all[0].getParameterCount(), 0);
        CHECK.isTrue("public", all[0].getModifiers() == Modifier.PUBLIC);
        CHECK.isTrue("of Object alone", PuppetBar.class.getSuperclass() == Object.class);
        CHECK.due("interfaces", PuppetBar.class.getInterfaces().length, 0);
    }

    private void namesOfPrivateMethods() {
        CHECK.sentence("rule 1: no private method bears the name of a public one; classes inside are static");
        Set<String> face = new TreeSet<>();
        for (String call : calls) {
            face.add(call.substring(call.indexOf(' ') + 1, call.indexOf('(')));
        }
        for (Method m : PuppetBar.class.getDeclaredMethods()) {
            CHECK.isTrue(m + " bears no public name", Modifier.isPublic(m.getModifiers())
                || !face.contains(m.getName()));
        }
        for (Class<?> inside : PuppetBar.class.getDeclaredClasses()) {
            CHECK.isTrue(inside + " is static", Modifier.isStatic(inside.getModifiers()));
            CHECK.isTrue(inside + " is not seen from outside",
                (inside.getModifiers() & (Modifier.PUBLIC | Modifier.PROTECTED)) == 0);
            for (Method m : inside.getDeclaredMethods()) {
                CHECK.isTrue(m + " bears no public name", !face.contains(m.getName()));
            }
        }
    }
}
