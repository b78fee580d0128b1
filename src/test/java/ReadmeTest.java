import java.io.IOException;
import java.lang.reflect.Method;
import java.lang.reflect.Modifier;
import java.net.URL;
import java.net.URLClassLoader;
import java.nio.file.Files;
import java.nio.file.Path;
import java.util.ArrayList;
import java.util.Arrays;
import java.util.List;
import java.util.Set;
import java.util.TreeSet;
import java.util.regex.MatchResult;
import java.util.regex.Matcher;
import java.util.regex.Pattern;
import java.util.stream.Collectors;
import java.util.stream.Stream;
import javax.tools.ToolProvider;

/** What README.md says is so when it is tried: its Java with the answers of the comments, its tables, its names. */
public final class ReadmeTest {
    /** A line of an example: what is declared, if anything, the call, and the answer that its comment begins with. */
    private static final Pattern ANSWERED = Pattern.compile("(?:(?:int|boolean) (\\w+) = )?(.*); +// (-?\\d+|true|false)\\b.*");
    /** There is nothing of this number, and it is no number of anything that may be asked for. */
    private static final int NOTHING = -7;

    private ReadmeTest() {
    }

    public static void main(String[] args) throws IOException, ReflectiveOperationException {
        String page = Files.readString(Path.of("README.md"));
        examples(page);
        callTable(page);
        answerTable(page);
        names(page);
        Play.finish("ReadmeTest");
    }

    private static List<MatchResult> all(String pattern, String text) {
        return Pattern.compile(pattern, Pattern.DOTALL | Pattern.MULTILINE).matcher(text).results().toList();
    }

    /** All examples are one run, in the page's order; a block that begins with "static" is a method beside it. */
    private static void examples(String page) throws IOException, ReflectiveOperationException {
        StringBuilder members = new StringBuilder();
        StringBuilder body = new StringBuilder();
        List<String> lines = new ArrayList<>();
        List<String> due = new ArrayList<>();
        for (MatchResult block : all("^```java\\n(.*?)^```$", page)) {
            if (block.group(1).startsWith("static ")) {
                members.append(block.group(1));
                continue;
            }
            for (String line : block.group(1).lines().toList()) {
                Matcher answered = ANSWERED.matcher(line);
                if (!answered.matches()) {
                    body.append(line).append('\n');
                    continue;
                }
                lines.add(line);
                due.add(answered.group(3));
                body.append(answered.group(1) == null ? "" : line + "\n");
                body.append("answers.add(String.valueOf(").append(answered.group(answered.group(1) == null ? 2 : 1)).append("));\n");
            }
        }
        Play.due("examples have answers", lines.size() >= 20, true);
        List<String> answers = run(members.toString(), body.toString());
        Play.due("answers of the examples", answers.size(), due.size());
        for (int i = 0; i < answers.size() && i < due.size(); i++) {
            Play.due("README.md: '" + lines.get(i) + "' answered " + answers.get(i), answers.get(i).equals(due.get(i)), true);
        }
    }

    private static List<String> run(String members, String body) throws IOException, ReflectiveOperationException {
        Path folder = Files.createTempDirectory(Files.createDirectories(Path.of("build")), "readme");
        Path source = folder.resolve("ReadmeExamples.java");
        Path compiled = folder.resolve("ReadmeExamples.class");
        Files.writeString(source, "public final class ReadmeExamples {\n" + members
            + "public static void run(java.util.List<String> answers) {\n" + body + "}\n}\n");
        List<String> answers = new ArrayList<>();
        int failed = ToolProvider.getSystemJavaCompiler().run(null, null, null, "-d", folder.toString(),
            "-cp", System.getProperty("java.class.path"), source.toString());
        Play.due("the Java of README.md is compiled", failed, 0);
        if (failed == 0) {
            try (URLClassLoader loader = new URLClassLoader(new URL[] {folder.toUri().toURL()})) {
                loader.loadClass("ReadmeExamples").getMethod("run", List.class).invoke(null, answers);
            }
        }
        Files.deleteIfExists(source);
        Files.deleteIfExists(compiled);
        Files.delete(folder);
        return answers;
    }

    private static void callTable(String page) throws IOException {
        Set<String> due = new TreeSet<>();
        for (String method : FaceTest.methodsOf(Files.readString(Path.of("../shared/DOC.md")))) {
            due.add(method.replaceAll("(?:int|long|boolean) ", ""));
        }
        Set<String> found = all("^\\| `(\\w+\\([^`]*\\))` \\| [^|\\n]+ \\|$", page).stream().map(row -> row.group(1))
            .collect(Collectors.toCollection(TreeSet::new));
        Play.due("calls of README.md: " + found, found.equals(due), true);
    }

    /** Each call of the face, asked of nothing, answers as its row says, or NONE. */
    private static void answerTable(String page) throws ReflectiveOperationException {
        List<MatchResult> rows = all("^\\| (-\\d+|false) \\| ([^|\\n]+) \\|$", page);
        Play.due("rows of answers", rows.size(), 3);
        FurnitureVotes votes = new FurnitureVotes();
        while (votes.feed(0, 0, 0, 0, 0) >= 0) {
            continue;
        }
        for (Method method : FurnitureVotes.class.getDeclaredMethods()) {
            if (Modifier.isPublic(method.getModifiers())) {
                String want = rows.stream().filter(row -> row.group(2).contains("`" + method.getName() + "`"))
                    .map(row -> row.group(1)).findFirst().orElse("-1");
                // Only text() changes anything here, and feed() needs the full tape.
                FurnitureVotes asked = method.getName().equals("text") ? new FurnitureVotes() : votes;
                String got = String.valueOf(method.invoke(asked, nothings(method)));
                Play.due("README.md: " + method.getName() + " of nothing answered " + got + ", due is " + want, got.equals(want), true);
            }
        }
    }

    private static Object[] nothings(Method method) {
        return Arrays.stream(method.getParameterTypes())
            .map(type -> type == boolean.class ? (Object) false : (Object) NOTHING).toArray();
    }

    /** The classes of the program and the files of the tests are those that the page names. */
    private static void names(String page) throws IOException {
        Set<String> named = all("`([A-Z][a-z]\\w*)`", page).stream().map(name -> name.group(1))
            .collect(Collectors.toCollection(TreeSet::new));
        Set<String> there = new TreeSet<>();
        for (Class<?> inside : FurnitureVotes.class.getDeclaredClasses()) {
            there.add(inside.getSimpleName());
        }
        try (Stream<Path> files = Files.list(Path.of("src/test/java"))) {
            files.forEach(file -> there.add(file.getFileName().toString().replace(".java", "")));
        }
        Play.due("names of README.md: " + named + ", there are: " + there, named.equals(there), true);
        for (MatchResult path : all("`((?:src|\\.ci|\\.\\./shared)/?[\\w./]*)`", page)) {
            Play.due(path.group(1) + " is there", Files.exists(Path.of(path.group(1))), true);
        }
    }
}
