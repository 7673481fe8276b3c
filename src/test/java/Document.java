import java.io.IOException;
import java.nio.file.Files;
import java.nio.file.Path;
import java.util.ArrayList;
import java.util.List;

/** The text of the document, and the face that it tells. */
final class Document {

    private static final String FACE = "public final class StepMachine {\n";

    private Document() {
    }

    static String text() {
        return read("document", "../shared/DOC.md");
    }

    /** A file by the name of the property that tells where it lies. */
    static String read(String property, String otherwise) {
        String path = System.getProperty(property, otherwise);
        try {
            return Files.readString(Path.of(path));
        } catch (IOException e) {
            throw new IllegalStateException("no file at " + path, e);
        }
    }

    /** The members of the face, a declaration each: 'public int peek(int at)'. */
    static List<String> face() {
        String text = text();
        int from = text.indexOf(FACE);
        int to = text.indexOf("\n}\n", from);
        List<String> members = new ArrayList<>();
        if (from >= 0 && to > from) {
            for (String line : text.substring(from + FACE.length(), to).split("\n")) {
                members.add(line.trim().replace(";", ""));
            }
        }
        return members;
    }

    /** The methods of the face without what they answer: 'peek(int at)'. */
    static List<String> calls() {
        List<String> calls = new ArrayList<>();
        for (String member : face()) {
            int open = member.indexOf('(');
            int name = open < 0 ? -1 : member.lastIndexOf(' ', open) + 1;
            if (open >= 0 && !member.startsWith("StepMachine", name)) {
                calls.add(member.substring(name));
            }
        }
        return calls;
    }
}
