import java.io.IOException;
import java.lang.reflect.Field;
import java.lang.reflect.Method;
import java.lang.reflect.Modifier;
import java.nio.file.Files;
import java.nio.file.Path;
import java.util.ArrayList;
import java.util.Arrays;
import java.util.List;
import java.util.Set;
import java.util.TreeSet;
import java.util.regex.Matcher;
import java.util.regex.Pattern;
import java.util.stream.Collectors;

/** The face of the class and such rules of LANGUAGE.md as can be seen from the text and from reflection. */
public final class SourceTest {
    private static final String FACE = """
        int feed(int,int,int,int,int)
        int end(int)
        int text(int,int)
        int fault(int)
        int chamber(int,int)
        int answer(int,int,int)
        int deed(int,int,int)
        int stop(int,int)
        int state(int,int,int,int)
        int carried(int,int)
        int moves(int,int,int)
        int waxed(int,int,boolean,int)
        int turn(int,int)
        int nearest(int,int)
        int lobby(int,int,int,boolean)
        int power(int,int)
        long weather(int,int,int,int,boolean)
        int fact(int,int,int)
        int fits(int,int)
        int ask(int,int)
        int drawn(int,int,int,int)
        int hush(int,int,int)
        int wake(int,int,int)
        int damps(int,int)
        int tips(int,int,int)
        int weighty(int,int)
        int worded(int,int)
        int clear(int,int)
        int greedy(int,int,int)
        int agenda(int,int,int,int,boolean)
        long odds(int,int,boolean)
        int weigh(int,int)
        int after(int,int,int)
        int bears(int,int,boolean)
        int kin(int,int,int)
        int trade(int,int)
        int oaken(int,int)
        int walk(int,int,int)
        int place(int,int,int,boolean)
        int hinge(int,int,boolean)
        int count(int)
        boolean image(int)
        boolean again(int)
        """;
    private static final String[] FORBIDDEN = {
        "\\bthrow\\b", "\\btry\\b", "\\bcatch\\b", "\\bsynchronized\\b", "\\bassert\\b", "->", "::", "\\bimport (?!java\\.util\\.Arrays;)",
        "\\bhashCode\\b", "\\btoString\\b", "Exact\\b", "while \\(true\\)", "for \\(;", "\\bpackage\\b", "\\bSystem\\.(?!arraycopy\\b)",
        "\\bstatic \\{", "\\bnew [A-Z]\\w*\\([^)]*\\) \\{",
    };

    private SourceTest() {
    }

    public static void main(String[] args) throws IOException {
        face();
        String source = Files.readString(Path.of("src/main/java/FurnitureVotes.java"));
        Play.due("signs beyond 126", source.chars().filter(c -> c > 126 || c < 32 && c != '\n').count(), 0);
        String code = source.replaceAll("(?s)/\\*.*?\\*/", "").replaceAll("//.*", "").replaceAll("\"[^\"]*\"", "\"\"");
        for (String pattern : FORBIDDEN) {
            Play.due("in the source: " + pattern, Pattern.compile(pattern).matcher(code).results().count(), 0);
        }
        classes();
        methodLengths(code);
        Play.finish("SourceTest");
    }

    private static void face() {
        Class<?> type = FurnitureVotes.class;
        Play.due("public and final", type.getModifiers() & (Modifier.PUBLIC | Modifier.FINAL), Modifier.PUBLIC | Modifier.FINAL);
        Set<String> due = new TreeSet<>(FACE.lines().toList());
        Set<String> found = new TreeSet<>();
        List<String> privateNames = new ArrayList<>();
        for (Method method : type.getDeclaredMethods()) {
            if (Modifier.isPrivate(method.getModifiers())) {
                privateNames.add(method.getName());
            } else {
                found.add(method.getReturnType() + " " + method.getName() + Arrays.stream(method.getParameterTypes())
                    .map(Class::getName).collect(Collectors.joining(",", "(", ")")));
            }
        }
        for (Class<?> inside : type.getDeclaredClasses()) {
            for (Method method : inside.getDeclaredMethods()) {
                privateNames.add(method.getName());
            }
        }
        Play.due("the face is " + found, found.equals(due), true);
        Set<String> names = due.stream().map(m -> m.replaceAll(".* |\\(.*", "")).collect(Collectors.toSet());
        privateNames.retainAll(names);
        Play.due("names of the face elsewhere: " + privateNames, privateNames.size(), 0);
        Play.due("constructors", type.getConstructors().length, 1);
        Play.due("all constructors", type.getDeclaredConstructors().length, 1);
        for (Field field : type.getDeclaredFields()) {
            boolean constant = field.getName().equals("NONE") && Modifier.isPublic(field.getModifiers());
            Play.due(field.getName() + " is private", constant || Modifier.isPrivate(field.getModifiers()), true);
        }
    }

    private static void classes() {
        List<Class<?>> all = new ArrayList<>(List.of(FurnitureVotes.class.getDeclaredClasses()));
        all.add(FurnitureVotes.class);
        Play.due("at most twelve classes", all.size() <= 12, true);
        for (Class<?> type : all) {
            long fields = Arrays.stream(type.getDeclaredFields()).filter(f -> !Modifier.isStatic(f.getModifiers())).count();
            Play.due("fields of " + type, fields <= 20, true);
            for (Field field : type.getDeclaredFields()) {
                int modifiers = field.getModifiers();
                Play.due("final: " + field, !Modifier.isStatic(modifiers) || Modifier.isFinal(modifiers), true);
            }
            for (Method method : type.getDeclaredMethods()) {
                Play.due("parameters of " + method, method.getParameterCount() <= 7, true);
            }
            Play.due("static: " + type, type == FurnitureVotes.class || Modifier.isStatic(type.getModifiers()), true);
        }
    }

    private static void methodLengths(String code) {
        Matcher matcher = Pattern.compile("(?m)^( +)[^\\n=]*\\) \\{\\n(.*?)^\\1\\}", Pattern.DOTALL).matcher(code);
        while (matcher.find()) {
            Play.due("a method's lines: " + matcher.group().lines().findFirst().orElse(""), matcher.group().lines().count() <= 60, true);
        }
    }
}
