import java.io.IOException;
import java.lang.reflect.Method;
import java.nio.file.Files;
import java.nio.file.Path;
import java.util.ArrayList;
import java.util.List;
import java.util.Set;
import java.util.TreeSet;
import java.util.regex.Matcher;
import java.util.regex.Pattern;
import java.util.stream.Stream;

/** Plays what README.md shows as use: each call of its Java blocks, beside the answer named there. */
public final class ReadmeTest {
    private static final Path README = Path.of("README.md");
    private static final Path TESTS = Path.of("src/test/java");
    private static final Pattern MAKING =
        Pattern.compile("GradualDesk desk = new GradualDesk\\(\\);( *//.*)?");
    private static final Pattern CALL =
        Pattern.compile("desk\\.(\\w+)\\(([^)]*)\\); *// (-?\\w+)(:.*)?");

    private static final Set<String> methodsShown = new TreeSet<>();
    private static final Set<String> answersShown = new TreeSet<>();

    /** An answer as README.md names it: a constant of the class, a truth or a number. */
    private static int answer(String word) throws ReflectiveOperationException {
        if (word.matches("[A-Z]+")) {
            return GradualDesk.class.getField(word).getInt(null);
        }
        if (word.equals("true") || word.equals("false")) {
            return word.equals("true") ? 1 : 0;
        }
        return Integer.parseInt(word);
    }

    private static Method method(String name) {
        for (Method m : GradualDesk.class.getMethods()) {
            if (m.getDeclaringClass() == GradualDesk.class && m.getName().equals(name)) {
                return m;
            }
        }
        throw new IllegalArgumentException("README.md shows a method that there is not: " + name);
    }

    private static void play(GradualDesk desk, Matcher call) throws ReflectiveOperationException {
        Method m = method(call.group(1));
        String[] words = call.group(2).isEmpty() ? new String[0] : call.group(2).split(", ");
        Object[] arguments = new Object[words.length];
        for (int i = 0; i < words.length; i++) {
            arguments[i] = Integer.parseInt(words[i]);
        }
        Object got = m.invoke(desk, arguments);
        boolean isTruth = m.getReturnType() == boolean.class;
        boolean namesTruth = call.group(3).equals("true") || call.group(3).equals("false");
        Bench.due("a truth is named of " + m.getName(), namesTruth, isTruth);
        int number = isTruth ? ((Boolean) got ? 1 : 0) : (Integer) got;
        Bench.due(m.getName() + "(" + call.group(2) + ")", number, answer(call.group(3)));
        methodsShown.add(m.getName());
        answersShown.add(call.group(3));
    }

    private static void playBlock(List<String> lines, int firstNumber) throws ReflectiveOperationException {
        GradualDesk desk = null;
        int calls = 0;
        for (int i = 0; i < lines.size(); i++) {
            String line = lines.get(i);
            Bench.topic("README.md, line " + (firstNumber + i));
            Matcher call = CALL.matcher(line);
            if (MAKING.matcher(line).matches()) {
                desk = new GradualDesk();
            } else if (desk != null && call.matches()) {
                play(desk, call);
                calls++;
            } else {
                Bench.due("what is no call with an answer", line, "");
            }
        }
        Bench.due("does a block show a call", calls > 0, true);
        Bench.due("are its calls promised", calls <= Bench.CALLS, true);
    }

    /** Plays all Java blocks; how many there are. */
    private static int playBlocks(List<String> readme) throws ReflectiveOperationException {
        int blocks = 0;
        List<String> block = null;
        for (int i = 0; i < readme.size(); i++) {
            String line = readme.get(i);
            if (line.equals("```java")) {
                block = new ArrayList<>();
            } else if (block != null && line.equals("```")) {
                playBlock(block, i + 1 - block.size());
                blocks++;
                block = null;
            } else if (block != null) {
                block.add(line);
            }
        }
        return blocks;
    }

    private static void showsTheWholeFace() {
        Bench.topic("README.md, what it shows");
        for (Method m : GradualDesk.class.getDeclaredMethods()) {
            if (java.lang.reflect.Modifier.isPublic(m.getModifiers())) {
                Bench.due("is a call of " + m.getName() + " shown", methodsShown.contains(m.getName()), true);
            }
        }
        String[] constants = {"OK", "SYNTAX", "ILL", "LARGE", "BLAME", "LONG", "BAD"};
        for (String constant : constants) {
            Bench.due("is an answer " + constant + " shown", answersShown.contains(constant), true);
        }
    }

    private static void namesEveryTest(String readme) throws IOException {
        Bench.topic("README.md, how to run the tests");
        Bench.due("is .ci/run named", readme.contains("`.ci/run`") && Files.isExecutable(Path.of(".ci/run")), true);
        try (Stream<Path> tests = Files.list(TESTS)) {
            tests.forEach(test -> {
                String name = TESTS + "/" + test.getFileName();
                Bench.due("is " + name + " named", readme.contains("`" + name + "`"), true);
            });
        }
    }

    public static void main(String[] args) throws Exception {
        int blocks = playBlocks(Files.readAllLines(README));
        Bench.topic("README.md");
        Bench.due("does it show use", blocks > 0, true);
        showsTheWholeFace();
        namesEveryTest(Files.readString(README));
        Bench.finish("README.md shows what is so");
    }
}
