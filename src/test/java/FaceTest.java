import java.lang.reflect.Constructor;
import java.lang.reflect.Field;
import java.lang.reflect.Method;
import java.lang.reflect.Modifier;
import java.util.ArrayList;
import java.util.Collections;
import java.util.List;

/** The public face: the one class, its constant, its constructor, its fifteen methods, no more. */
public final class FaceTest {

    private static final Check CHECK = new Check("FaceTest");

    private FaceTest() {
    }

    public static void main(String[] args) throws Exception {
        faceIsTheDocuments();
        promisesHaveTheFace();
        classIsPublicAndFinal();
        constantIsNone();
        otherMembersArePrivate();
        methodsThrowNothing();
        CHECK.end();
    }

    private static void faceIsTheDocuments() {
        List<String> want = new ArrayList<>();
        for (String member : Document.face()) {
            want.add(withoutNames(member));
        }
        CHECK.due("members of the document's face", want.size(), 17);
        CHECK.due("methods of the document's face", Document.calls().size(), 15);
        List<String> seen = publicMembers();
        Collections.sort(want);
        Collections.sort(seen);
        CHECK.due("the face " + seen + " is " + want, seen.equals(want), true);
    }

    /** 'public int peek(int at)' as 'public int peek(int)'. */
    private static String withoutNames(String member) {
        return member.replaceAll("(\\w+) \\w+(?=[,)])", "$1").replaceAll(" = .*", "");
    }

    private static List<String> publicMembers() {
        List<String> seen = new ArrayList<>();
        for (Method m : StepMachine.class.getDeclaredMethods()) {
            if (Modifier.isPublic(m.getModifiers())) {
                seen.add(Modifier.toString(m.getModifiers()) + " " + m.getReturnType() + " " + m.getName() + types(m.getParameterTypes()));
            }
        }
        for (Constructor<?> c : StepMachine.class.getDeclaredConstructors()) {
            seen.add(Modifier.toString(c.getModifiers()) + " StepMachine" + types(c.getParameterTypes()));
        }
        for (Field f : StepMachine.class.getDeclaredFields()) {
            if (Modifier.isPublic(f.getModifiers())) {
                seen.add(Modifier.toString(f.getModifiers()) + " " + f.getType() + " " + f.getName());
            }
        }
        return seen;
    }

    private static String types(Class<?>[] parameters) {
        List<String> names = new ArrayList<>();
        for (Class<?> c : parameters) {
            names.add(c.getName());
        }
        return "(" + String.join(", ", names) + ")";
    }

    private static void promisesHaveTheFace() {
        String text = Document.text();
        for (String call : Document.calls()) {
            String name = call.substring(0, call.indexOf('('));
            CHECK.due("a promise tells of " + call, text.contains(": " + name + "\n") && text.contains(" " + call + "`:"), true);
        }
    }

    private static void classIsPublicAndFinal() {
        CHECK.due("public final class", Modifier.toString(StepMachine.class.getModifiers()).equals("public final"), true);
        CHECK.due("no package", StepMachine.class.getPackageName().isEmpty(), true);
        CHECK.due("no class above it", StepMachine.class.getSuperclass() == Object.class, true);
        CHECK.due("interfaces", StepMachine.class.getInterfaces().length, 0);
    }

    private static void constantIsNone() throws Exception {
        CHECK.due("NONE", StepMachine.NONE, -1);
        CHECK.due("NONE, as it is read", StepMachine.class.getField("NONE").getInt(null), -1);
    }

    private static void otherMembersArePrivate() {
        for (Method m : StepMachine.class.getDeclaredMethods()) {
            CHECK.due(m + " is public or private", Modifier.isPublic(m.getModifiers()) || Modifier.isPrivate(m.getModifiers()), true);
        }
        for (Field f : StepMachine.class.getDeclaredFields()) {
            CHECK.due(f + " is private", Modifier.isPrivate(f.getModifiers()), !f.getName().equals("NONE"));
        }
        for (Class<?> c : StepMachine.class.getDeclaredClasses()) {
            int is = c.getModifiers();
            CHECK.due(c + " is hidden", Modifier.isPublic(is) || Modifier.isProtected(is), false);
            CHECK.due(c + " is static", Modifier.isStatic(is), true);
        }
    }

    private static void methodsThrowNothing() {
        for (Method m : StepMachine.class.getDeclaredMethods()) {
            CHECK.due(m + " throws", m.getExceptionTypes().length, 0);
        }
    }
}
