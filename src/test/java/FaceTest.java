import java.lang.reflect.Constructor;
import java.lang.reflect.Field;
import java.lang.reflect.Method;
import java.lang.reflect.Modifier;
import java.util.ArrayList;
import java.util.Arrays;
import java.util.Collections;
import java.util.List;

/** The public face, and rule 1 of the language: nothing beside it can be seen from outside. */
public final class FaceTest {
    private static final Check CHECK = new Check("FaceTest");
    private static final String[] FACE = {"type 1", "clear 0", "puppet 0", "limb 2", "string 2", "beat 2", "far 2",
        "lifts 1", "tilts 1", "cuts 1", "ties 3", "hangs 2", "holds 0", "beats 1", "undo 0", "now 1", "reach 2",
        "fell 1", "path 2", "nods 1", "play 1", "odds 3", "saw 2", "forget 0", "suspects 0", "holes 1", "look 0",
        "mark 2", "keep 1", "back 1", "count 1", "trace 0"};

    public static void main(String[] args) {
        CHECK.due("BAD", PuppetBar.BAD, -1);
        CHECK.due("STATE", PuppetBar.STATE, -2);
        CHECK.due("FULL", PuppetBar.FULL, -3);
        CHECK.due("NONE", PuppetBar.NONE, -9);
        CHECK.due("NO", PuppetBar.NO, -1000000);
        CHECK.isTrue("public final", PuppetBar.class.getModifiers() == (Modifier.PUBLIC | Modifier.FINAL));
        methods();
        fields();
        constructors();
        namesOfPrivateMethods();
        CHECK.end();
    }

    private static void methods() {
        List<String> found = new ArrayList<>();
        for (Method m : PuppetBar.class.getDeclaredMethods()) {
            boolean isPublic = m.getModifiers() == Modifier.PUBLIC;
            CHECK.isTrue(m + " is public or private", isPublic || Modifier.isPrivate(m.getModifiers()));
            if (isPublic) {
                found.add(m.getName() + " " + m.getParameterCount());
                boolean isTrace = m.getName().equals("trace");
                CHECK.isTrue(m + " has the type due", m.getReturnType() == (isTrace ? long.class : int.class));
                CHECK.isTrue(m + " takes ints",
                    Arrays.stream(m.getParameterTypes()).allMatch(t -> t == int.class));
            }
        }
        List<String> due = new ArrayList<>(Arrays.asList(FACE));
        Collections.sort(found);
        Collections.sort(due);
        CHECK.isTrue("the face is " + due + ", found " + found, found.equals(due));
    }

    private static void fields() {
        int constants = 0;
        for (Field f : PuppetBar.class.getDeclaredFields()) {
            boolean isConstant = f.getModifiers() == (Modifier.PUBLIC | Modifier.STATIC | Modifier.FINAL);
            constants += isConstant ? 1 : 0;
            CHECK.isTrue(f + " is a constant or private", isConstant || Modifier.isPrivate(f.getModifiers()));
            CHECK.isTrue(f + " is no static state",
                !Modifier.isStatic(f.getModifiers()) || Modifier.isFinal(f.getModifiers()));
        }
        CHECK.due("public constants", constants, 5);
    }

    private static void constructors() {
        Constructor<?>[] all = PuppetBar.class.getDeclaredConstructors();
        CHECK.due("constructors", all.length, 1);
        CHECK.due("parameters", all[0].getParameterCount(), 0);
        CHECK.isTrue("public", all[0].getModifiers() == Modifier.PUBLIC);
    }

    private static void namesOfPrivateMethods() {
        List<String> face = new ArrayList<>();
        for (String entry : FACE) {
            face.add(entry.split(" ")[0]);
        }
        for (Method m : PuppetBar.class.getDeclaredMethods()) {
            CHECK.isTrue(m + " bears no public name", Modifier.isPublic(m.getModifiers())
                || !face.contains(m.getName()));
        }
        for (Class<?> inside : PuppetBar.class.getDeclaredClasses()) {
            CHECK.isTrue(inside + " is static", Modifier.isStatic(inside.getModifiers()));
            CHECK.isTrue(inside + " is not seen from outside",
                (inside.getModifiers() & (Modifier.PUBLIC | Modifier.PROTECTED)) == 0);
            for (Method m : inside.getDeclaredMethods()) {
                CHECK.isTrue(m + " bears no public name", !face.contains(m.getName()));
            }
        }
    }
}
