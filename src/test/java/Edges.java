import java.io.IOException;
import java.nio.file.Files;
import java.nio.file.Path;
import java.util.Arrays;
import java.util.List;
import java.util.Map;
import java.util.TreeMap;

/**
 * What the tests of edges have in common: for each answer that is due, the promise and the words of the document that
 * want it are named; in the end it is looked whether these words stand there, and whether no words of the sections
 * were left without an answer.
 */
abstract class Edges {
    static final int NONE = FurnitureVotes.NONE;
    static final int LOW = Integer.MIN_VALUE;
    static final int HIGH = Integer.MAX_VALUE;
    /** Numbers that are none of 0 or 1, whatever is asked for: one too small, one too large, and far ones. */
    static final int[] NO_NUMBERS = {LOW, -1000, -2, -1, 2, 3, 8, 64, 512, HIGH};
    static final int[] NO_MOTIONS = {LOW, -64, -2, -1, 64, 65, 128, HIGH};

    private static final Path DOCUMENT = Path.of("../shared/DOC.md");

    static FurnitureVotes votes;

    private static final Map<String, String> sections = new TreeMap<>();
    private static final Map<String, boolean[]> named = new TreeMap<>();
    private static String now = "";
    private static int answers = 1;

    /** What follows is due by these words of the promise. */
    static void promise(int number, String words) {
        begin("Promise " + number, "promise " + number, words);
    }

    /** What follows is due by these words of the terms, for the promise. */
    static void term(int number, int promise, String words) {
        begin("Term " + number, "promise " + promise + ", term " + number, words);
    }

    private static void begin(String section, String name, String words) {
        Play.due(now + " has answers", answers > 0, true);
        now = name + ", '" + words + "'";
        answers = 0;
        mark(section, words);
    }

    static void due(long got, long want) {
        answers++;
        Play.due(now + " (line " + line() + ")", got, want);
    }

    static void due(boolean got, boolean want) {
        due(got ? 1 : 0, want ? 1 : 0);
    }

    /** A new object with this chamber. */
    static void room(String text) {
        votes = new FurnitureVotes();
        tell(0, text);
    }

    /** A new object with this chamber, in which this is session 0. */
    static void room(String text, String deeds) {
        room(text);
        tell(1, deeds);
    }

    /** A new object with this log. */
    static void log(String text) {
        votes = new FurnitureVotes();
        tell(2, text);
    }

    /** Takes a text as number 0 of its sort. */
    static void tell(int sort, String text) {
        int at = votes.count(sort) == 0 ? NONE : 0;
        Play.due(now + " (line " + line() + "): text of '" + text + "'", Play.tell(votes, sort, at, text), 0);
    }

    /** A text of a sort has the fault at the place (0, NONE: it has none). */
    static void faulty(int sort, String text, int fault, int place) {
        answers++;
        FurnitureVotes other = new FurnitureVotes();
        String call = now + " (line " + line() + ") of '" + text + "': ";
        Play.due(call + "text", Play.tell(other, sort, NONE, text), fault == 0 ? 0 : NONE);
        Play.due(call + "fault(0)", other.fault(0), fault);
        Play.due(call + "fault(1)", other.fault(1), place);
        Play.due(call + "count", other.count(sort), fault == 0 ? 1 : 0);
    }

    static void faultless(int sort, String text) {
        faulty(sort, text, 0, NONE);
    }

    private static int line() {
        List<String> own = List.of("due", "faulty", "faultless", "tell", "room", "log", "line");
        return StackWalker.getInstance().walk(frames -> frames
            .filter(frame -> !own.contains(frame.getMethodName())).findFirst().orElseThrow().getLineNumber());
    }

    private static void mark(String section, String words) {
        String text = readDocument().get(section);
        if (text == null) {
            Play.due("the document has a section " + section, sections.isEmpty(), true);
            return;
        }
        boolean[] marks = named.computeIfAbsent(section, key -> new boolean[text.length()]);
        int at = text.indexOf(words);
        Play.due(section + " has the words '" + words + "'", at >= 0, true);
        while (at >= 0) {
            Arrays.fill(marks, at, at + words.length(), true);
            at = text.indexOf(words, at + 1);
        }
    }

    /** Fails if words of these terms and promises were named by no test. */
    static void finish(String test, int[] terms, int[] promises) {
        Play.due(now + " has answers", answers > 0, true);
        for (int number : terms) {
            whole("Term " + number);
        }
        for (int number : promises) {
            whole("Promise " + number);
        }
        Play.finish(test);
    }

    private static void whole(String section) {
        String text = readDocument().get(section);
        if (text == null) {
            return;
        }
        boolean[] marks = named.getOrDefault(section, new boolean[text.length()]);
        StringBuilder left = new StringBuilder();
        for (int i = 0; i < text.length(); i++) {
            left.append(marks[i] ? ' ' : text.charAt(i));
        }
        String unnamed = left.toString().replaceAll("[ ,;:.()|{}]+", " ").trim();
        Play.due(section + " has words without a test: '" + unnamed + "'", unnamed.isEmpty(), true);
    }

    /** The sections by name, each on one line; none where the document is not at hand. */
    private static Map<String, String> readDocument() {
        if (sections.isEmpty() && Files.isRegularFile(DOCUMENT)) {
            String section = "";
            for (String line : documentLines()) {
                if (line.startsWith("## Promise ")) {
                    section = line.substring(3, line.indexOf(':'));
                } else if (line.startsWith("#") || line.startsWith("The constants")) {
                    section = line;
                } else if (line.matches("[1-6]\\. .*")) {
                    section = "Term " + line.charAt(0);
                    add(section, line.substring(3));
                } else if (!line.startsWith("```")) {
                    add(section, line.replaceFirst("^`[^`]*`: ", ""));
                }
            }
        }
        return sections;
    }

    private static void add(String section, String line) {
        sections.merge(section, line.trim(), (before, more) -> (before + " " + more).trim());
    }

    private static List<String> documentLines() {
        try {
            return Files.readAllLines(DOCUMENT);
        } catch (IOException e) {
            throw new IllegalStateException(e);
        }
    }
}
