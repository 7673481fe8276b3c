import java.lang.reflect.Constructor;
import java.lang.reflect.Field;
import java.lang.reflect.Method;
import java.lang.reflect.Modifier;
import java.util.Set;
import java.util.TreeSet;

/** The public face, as the document and LANGUAGE.md have it, and the example of README.md. */
public final class FaceTest {

    private static final Check CHECK = new Check("FaceTest");

    public static void main(String[] args) {
        faceIsTheDocuments();
        exampleOfTheReadme();
        CHECK.end();
    }

    private static void faceIsTheDocuments() {
        Set<String> want = new TreeSet<>(Set.of(
                "boolean segment[int, int, int, int]", "boolean mark[int, boolean]", "void marking[boolean]",
                "boolean poke[int, int, long]", "int peek[int]", "boolean set[int, int]", "int get[int]",
                "boolean input[int, long]", "boolean halt[int, boolean]", "int step[]", "int run[int]",
                "int back[int]", "int state[int]", "int output[int]", "int rights[int]"));
        Set<String> publicNames = new TreeSet<>();
        Set<String> seen = new TreeSet<>();
        for (Method m : StepMachine.class.getDeclaredMethods()) {
            if (!Modifier.isPrivate(m.getModifiers())) {
                publicNames.add(m.getName());
                seen.add(m.getReturnType() + " " + m.getName() + java.util.Arrays.toString(m.getParameterTypes()));
                CHECK.due(m + " is public", Modifier.isPublic(m.getModifiers()), true);
            }
        }
        CHECK.due("methods " + seen, seen.equals(want), true);
        for (Field f : StepMachine.class.getDeclaredFields()) {
            CHECK.due(f + " is private", Modifier.isPrivate(f.getModifiers()), !f.getName().equals("NONE"));
        }
        Constructor<?>[] constructors = StepMachine.class.getDeclaredConstructors();
        CHECK.due("constructors", constructors.length, 1);
        CHECK.due("final", Modifier.isFinal(StepMachine.class.getModifiers()), true);
        CHECK.due("NONE", StepMachine.NONE, -1);
        for (Class<?> c : StepMachine.class.getDeclaredClasses()) {
            for (Method m : c.getDeclaredMethods()) {
                CHECK.due(m + " bears a public name", publicNames.contains(m.getName()), false);
            }
        }
    }

    private static void exampleOfTheReadme() {
        StepMachine x = new StepMachine();
        x.segment(0, 0, 64, 5);
        x.poke(0, 8, 0x1305700273000000L);
        x.set(17, 10);
        CHECK.due("run(100)", x.run(100), 2);
        CHECK.due("state(0)", x.state(0), 8);
        CHECK.due("state(2)", x.state(2), 39);
        CHECK.due("back(1)", x.back(1), 1);
        CHECK.due("state(0)", x.state(0), 0);
    }
}
