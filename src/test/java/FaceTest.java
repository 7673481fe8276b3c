import java.lang.reflect.Constructor;
import java.lang.reflect.Field;
import java.lang.reflect.Method;
import java.lang.reflect.Modifier;
import java.util.Set;
import java.util.TreeSet;

/** The public face, and promise 1: a new object. */
public final class FaceTest {

    private static final Check CHECK = new Check("FaceTest");

    public static void main(String[] args) {
        faceIsTheDocuments();
        newObjectIsEmpty();
        CHECK.end();
    }

    private static void faceIsTheDocuments() {
        Set<String> want = new TreeSet<>(Set.of(
                "boolean segment[int, int, int, int]", "boolean mark[int, boolean]", "void marking[boolean]",
                "boolean poke[int, int, long]", "int peek[int]", "boolean set[int, int]", "int get[int]",
                "boolean input[int, long]", "boolean halt[int, boolean]", "int step[]", "int run[int]",
                "int back[int]", "int state[int]", "int output[int]", "int rights[int]"));
        Set<String> publicNames = new TreeSet<>();
        Set<String> seen = new TreeSet<>();
        for (Method m : StepMachine.class.getDeclaredMethods()) {
            if (!Modifier.isPrivate(m.getModifiers())) {
                publicNames.add(m.getName());
                seen.add(m.getReturnType() + " " + m.getName() + java.util.Arrays.toString(m.getParameterTypes()));
                CHECK.due(m + " is public", Modifier.isPublic(m.getModifiers()), true);
            }
        }
        CHECK.due("methods " + seen, seen.equals(want), true);
        for (Field f : StepMachine.class.getDeclaredFields()) {
            CHECK.due(f + " is private", Modifier.isPrivate(f.getModifiers()), !f.getName().equals("NONE"));
        }
        Constructor<?>[] constructors = StepMachine.class.getDeclaredConstructors();
        CHECK.due("constructors", constructors.length, 1);
        CHECK.due("final", Modifier.isFinal(StepMachine.class.getModifiers()), true);
        CHECK.due("NONE", StepMachine.NONE, -1);
        for (Class<?> c : StepMachine.class.getDeclaredClasses()) {
            for (Method m : c.getDeclaredMethods()) {
                CHECK.due(m + " bears a public name", publicNames.contains(m.getName()), false);
            }
        }
    }

    private static void newObjectIsEmpty() {
        StepMachine x = new StepMachine();
        for (int r = -2; r < 40; r++) {
            CHECK.due("get(" + r + ")", x.get(r), 0);
        }
        for (int what = 0; what <= 8; what++) {
            CHECK.due("state(" + what + ")", x.state(what), 0);
        }
        CHECK.due("output(0)", x.output(0), -1);
        for (int at = 0; at < 131072; at++) {
            if (x.peek(at) != 0 || x.rights(at) != 0) {
                CHECK.due("peek and rights of " + at, x.peek(at) + x.rights(at), 0);
            }
        }
        CHECK.due("marking is off: back to back jumps", jumpsWithoutMarks(), 0);
        CHECK.due("back(1)", x.back(1), 0);
        CHECK.due("step()", x.step(), 1);
        CHECK.due("state(1)", x.state(1), 0);
        CHECK.due("state(3)", x.state(3), 0);
    }

    private static int jumpsWithoutMarks() {
        StepMachine x = new StepMachine();
        x.segment(0, 0, 8, 4);
        x.poke(0, 2, 0x01a0L << 48);
        return x.step();
    }
}
