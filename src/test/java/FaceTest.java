import java.io.IOException;
import java.lang.reflect.Field;
import java.lang.reflect.Method;
import java.lang.reflect.Modifier;
import java.lang.reflect.Parameter;
import java.nio.file.Files;
import java.nio.file.Path;
import java.util.Arrays;
import java.util.List;
import java.util.Set;
import java.util.TreeSet;
import java.util.regex.MatchResult;
import java.util.regex.Pattern;
import java.util.stream.Collectors;

/** The document ahead of its terms, its constants and the heads of its promises, held against the class. */
public final class FaceTest {
    private static final Path DOCUMENT = Path.of("../shared/DOC.md");
    private static final int CALLS = 512;

    private FaceTest() {
    }

    public static void main(String[] args) throws IOException {
        String document = Files.readString(DOCUMENT);
        face(document);
        heads(document);
        constants(document);
        lastCalls(document);
        Play.finish("FaceTest");
    }

    /** The methods of the document's face, as "int feed(int a, int b, int c, int d, int e)". */
    static List<String> methodsOf(String document) {
        return Pattern.compile("(?m)^    public ((?:int|long|boolean) \\w+\\([^)]*\\));$").matcher(document).results()
            .map(found -> found.group(1)).toList();
    }

    private static void face(String document) {
        Set<String> due = new TreeSet<>();
        for (String method : methodsOf(document)) {
            due.add(method.replaceAll(" \\w+([,)])", "$1"));
        }
        Set<String> found = new TreeSet<>();
        for (Method method : FurnitureVotes.class.getDeclaredMethods()) {
            if (!Modifier.isPrivate(method.getModifiers())) {
                found.add(method.getReturnType() + " " + method.getName() + Arrays.stream(method.getParameters())
                    .map(Parameter::getType).map(Class::getName).collect(Collectors.joining(", ", "(", ")")));
            }
        }
        Play.due("The public face, methods: " + found, found.equals(due), true);
        boolean told = document.contains("public final class FurnitureVotes {") && document.contains("public FurnitureVotes();");
        Play.due("The public face, class and constructor", told, true);
        Play.due("The public face, the class is public and final",
            FurnitureVotes.class.getModifiers(), Modifier.PUBLIC | Modifier.FINAL);
        Play.due("The public face, constructors", FurnitureVotes.class.getConstructors().length, 1);
        Play.due("The public face, its parameters", FurnitureVotes.class.getConstructors()[0].getParameterCount(), 0);
    }

    /** Each promise but the first is of one method of the face, in the face's order or not. */
    private static void heads(String document) {
        List<MatchResult> heads = Pattern.compile("(?m)^## Promise (\\d+): (\\w+)[^\\n]*\\n\\n`([^`]*)`").matcher(document)
            .results().toList();
        Set<String> methods = new TreeSet<>(methodsOf(document));
        Play.due("promises", heads.size(), methods.size() + 1);
        for (MatchResult head : heads) {
            int number = Integer.parseInt(head.group(1));
            Play.due("promise " + number + " stands in its place", heads.indexOf(head) + 1, number);
            if (number > 1) {
                Play.due("promise " + number + " is of " + head.group(2), head.group(3).contains(" " + head.group(2) + "("), true);
                Play.due("promise " + number + " is of the face", methods.remove(head.group(3)), true);
            }
        }
        Play.due("methods without a promise: " + methods, methods.size(), 0);
    }

    private static void constants(String document) {
        Play.due("The constants: `NONE = -1`", document.contains("The constants: `NONE = -1`: There is none."), true);
        Play.due("NONE", FurnitureVotes.NONE, -1);
        for (Field field : FurnitureVotes.class.getFields()) {
            Play.due("a public field: " + field.getName(), field.getName().equals("NONE"), true);
        }
    }

    /** The same questions are answered alike from an object's first calls to its last one. */
    private static void lastCalls(String document) {
        String words = "An object is used for at most 512 calls after it has been made";
        Play.due(words, document.contains(words), true);
        FurnitureVotes votes = new FurnitureVotes();
        votes.feed(0x62656E63, 0x68207069, 0x6E652032, 0x20313020, 0x3120333B); // bench pine 2 10 1 3;
        votes.feed(0x73746F6F, 0x6C206F61, 0x6B203020, 0x38203220, 0x31203B20); // stool oak 0 8 2 1 ;
        votes.feed(0x73697473, 0x20342030, 0x3B736974, 0x73203820, 0x313B2020); // sits 4 0;sits 8 1;
        int calls = 3;
        Play.due(words + ": text", votes.text(0, -1), 0);
        votes.image(0);
        calls += 2;
        long[] first = new long[7];
        for (int round = 0; calls + 7 <= CALLS; round++) {
            long[] answers = {
                votes.answer(0, 0, 0), votes.moves(0, 0, -1), votes.waxed(0, 1, false, 0), votes.lobby(0, 1, 4, true),
                votes.weather(0, 0, 9, 3, false), votes.drawn(0, 7, 60, 0), votes.again(0) ? 1 : 0,
            };
            calls += 7;
            first = round == 0 ? answers : first;
            for (int i = 0; i < 7; i++) {
                Play.due(words + ": question " + i + " of round " + round, answers[i], first[i]);
            }
        }
        Play.due(words + ": the chamber as told", votes.chamber(0, 0), 2);
        for (calls++; calls < CALLS; calls++) {
            Play.due(words + ": call " + (calls + 1), votes.count(0), 1);
        }
    }
}
