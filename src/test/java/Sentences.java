/**
 * The document's sentences. A test begins by quoting the one that it holds the class to; what is
 * not as due is told with that quote, and a quote that does not stand in the document, or words
 * of the document that no test quotes, are faults too.
 */
final class Sentences {

    // The public face is FaceTest's; what is not promised is free, so no test asks for it.
    private static final String[] HEADINGS = {"## What it is", "## Terms", "## Promise "};

    private final Check check;
    private final String text;
    private final boolean[] isQuoted;
    private String now = "";
    private int count;

    Sentences(String test) {
        check = new Check(test);
        text = Document.text();
        isQuoted = new boolean[text.length()];
    }

    /** Says which words of the document, under which heading, the checks that follow are for. */
    void says(String heading, String... quotes) {
        now = heading + ", '" + quotes[0] + "'";
        count++;
        int from = text.indexOf("## " + heading);
        int next = text.indexOf("\n## ", from);
        int to = next < 0 ? text.length() : next;
        for (String quote : quotes) {
            int at = from < 0 ? -1 : text.indexOf(quote, from);
            boolean stands = at >= 0 && at + quote.length() <= to;
            check.due("the document says, under " + heading + ", '" + quote + "'", stands, true);
            for (int k = 0; k < quote.length() && stands; k++) {
                isQuoted[at + k] = true;
            }
        }
    }

    void due(String call, long got, long want) {
        check.due(now + ": " + call, got, want);
    }

    void due(String call, boolean got, boolean want) {
        check.due(now + ": " + call, got, want);
    }

    void dueState(String call, StepMachine x, int state, int culprit, int pc, int steps) {
        due(call + ": state(0)", x.state(0), state);
        due(call + ": state(1)", x.state(1), culprit);
        due(call + ": get(32)", x.get(32), pc);
        due(call + ": state(3)", x.state(3), steps);
    }

    /** That a word fails as ILLEGAL, behind a word that counts. */
    void dueIllegal(int w) {
        StepMachine x = Load.machine(Load.nop(), w);
        String call = "the word " + Integer.toHexString(w);
        due(call + ", ahead of it: step()", x.step(), 0);
        due(call + ": step()", x.step(), 2);
        dueState(call, x, 2, 2, 2, 1);
    }

    /** That a word at address 0 makes a step that counts, and goes on to the next word. */
    void dueGoesOn(String call, StepMachine x, int bytes) {
        due(call + ": step()", x.step(), 0);
        dueState(call, x, 0, 0, bytes, 1);
    }

    void end() {
        System.out.println(count + " sentences, each with its test");
        for (String line : text.split("\n")) {
            dueQuoted(line, text.indexOf(line));
        }
        check.end();
    }

    private boolean mustBeQuoted(String line, int at) {
        int heading = text.lastIndexOf("\n## ", at) + 1;
        boolean isUnderOne = false;
        for (String start : HEADINGS) {
            isUnderOne |= text.startsWith(start, heading);
        }
        return isUnderOne && !line.startsWith("## ") && !line.startsWith("```");
    }

    /** What stands between ` and `: is the face of a call, which FaceTest looks at. */
    private void dueQuoted(String line, int at) {
        if (!mustBeQuoted(line, at)) {
            return;
        }
        int face = line.startsWith("`") ? line.indexOf("`:") : 0;
        StringBuilder left = new StringBuilder();
        for (int k = face; k < line.length(); k++) {
            left.append(isQuoted[at + k] ? ' ' : line.charAt(k));
        }
        String words = left.toString().replaceAll("[^A-Za-z0-9]+", " ").trim();
        check.due("words that no test quotes: '" + words + "'", words.isEmpty(), true);
    }
}
