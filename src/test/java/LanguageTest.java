import java.lang.reflect.Field;
import java.lang.reflect.Method;
import java.lang.reflect.Modifier;
import java.util.ArrayList;
import java.util.HashSet;
import java.util.List;
import java.util.Set;
import java.util.regex.Matcher;
import java.util.regex.Pattern;

/** The rules of LANGUAGE.md, by their numbers, as far as the text and the classes show them. */
public final class LanguageTest {

    private static final Check CHECK = new Check("LanguageTest");
    private static final int MOST_CLASSES = 12;
    private static final int MOST_FIELDS = 20;
    private static final int MOST_PARAMETERS = 7;
    private static final int MOST_LINES = 60;
    private static final Set<Class<?>> CONSTANTS = Set.of(int.class, long.class, boolean.class, char.class, String.class,
            int[].class, long[].class, char[].class, byte[].class);

    private LanguageTest() {
    }

    public static void main(String[] args) {
        String code = withoutComments(Document.read("source", "src/main/java/StepMachine.java"));
        namesOfTheFaceAreItsOwn();
        noWordsThatTheRulesLeaveOut(code);
        noLibrary(code);
        staticFieldsAreConstants();
        sizes(code);
        CHECK.end();
    }

    private static String withoutComments(String text) {
        return text.replaceAll("(?s)/\\*.*?\\*/", "").replaceAll("//[^\n]*", "");
    }

    private static List<Class<?>> classes() {
        List<Class<?>> all = new ArrayList<>(List.of(StepMachine.class.getDeclaredClasses()));
        all.add(StepMachine.class);
        return all;
    }

    private static void namesOfTheFaceAreItsOwn() {
        Set<String> face = new HashSet<>();
        for (Method m : StepMachine.class.getMethods()) {
            face.add(m.getName());
        }
        for (Class<?> c : classes()) {
            for (Method m : c.getDeclaredMethods()) {
                boolean isOfTheFace = c == StepMachine.class && Modifier.isPublic(m.getModifiers());
                CHECK.due("rule 1: " + m + " bears a name of the face", face.contains(m.getName()), isOfTheFace);
            }
        }
    }

    /** The class has no use for exceptions, as the document names none. */
    private static void noWordsThatTheRulesLeaveOut(String code) {
        String[] words = {"\\bpackage\\b", "\\bimport\\b", "->", "::", "\\bthrow\\b", "\\bthrows\\b", "\\btry\\b", "\\bcatch\\b",
            "\\bfinally\\b", "\\bsynchronized\\b", "\\bassert\\b", "\\bvolatile\\b", "\\bnative\\b", "\\bstatic \\{", "\\bvar\\b"};
        for (String word : words) {
            CHECK.due("rules 2, 4, 5, 6: " + word, Pattern.compile(word).matcher(code).find(), false);
        }
    }

    private static void noLibrary(String code) {
        Set<String> own = new HashSet<>(Set.of("Math"));
        for (Class<?> c : classes()) {
            own.add(c.getSimpleName());
        }
        Matcher m = Pattern.compile("\\b[A-Z]\\w*[a-z]\\w*").matcher(code);
        while (m.find()) {
            CHECK.due("rules 3, 4: " + m.group() + " is a class of its own", own.contains(m.group()), true);
        }
        CHECK.due("rule 4: Math's functions", code.replace("Math.floorMod(", "").contains("Math"), false);
    }

    private static void staticFieldsAreConstants() {
        for (Class<?> c : classes()) {
            for (Field f : c.getDeclaredFields()) {
                int is = f.getModifiers();
                boolean isConstant = Modifier.isFinal(is) && CONSTANTS.contains(f.getType());
                CHECK.due("rule 5: " + f + " is a constant", !Modifier.isStatic(is) || isConstant, true);
            }
        }
    }

    private static void sizes(String code) {
        CHECK.due("rule 11: at most twelve classes", classes().size() <= MOST_CLASSES, true);
        for (Class<?> c : classes()) {
            int fields = 0;
            for (Field f : c.getDeclaredFields()) {
                fields += Modifier.isStatic(f.getModifiers()) ? 0 : 1;
            }
            CHECK.due("rule 11: " + fields + " fields of " + c, fields <= MOST_FIELDS, true);
            for (Method m : c.getDeclaredMethods()) {
                CHECK.due("rule 11: parameters of " + m, m.getParameterCount() <= MOST_PARAMETERS, true);
            }
        }
        methodsAreShort(code);
    }

    private static void methodsAreShort(String code) {
        Matcher m = Pattern.compile("(?ms)^( {4}| {8})(\\w[^\n]*\\)) \\{\n(.*?)^\\1\\}").matcher(code);
        int methods = 0;
        while (m.find()) {
            methods++;
            CHECK.due("rule 11: lines of " + m.group(2), m.group(3).split("\n").length <= MOST_LINES, true);
        }
        CHECK.due("rule 11: methods found", methods > 50, true);
    }
}
