import java.lang.reflect.Constructor;
import java.lang.reflect.Field;
import java.lang.reflect.Method;
import java.lang.reflect.Modifier;
import java.nio.file.Files;
import java.nio.file.Path;
import java.util.ArrayList;
import java.util.HashMap;
import java.util.List;
import java.util.Map;
import java.util.Set;
import java.util.TreeSet;
import java.util.regex.Matcher;
import java.util.regex.Pattern;

/** The public face, and those rules of LANGUAGE.md that can be read off the class and its source. */
public final class LanguageTest {
    private static final Path SOURCE = Path.of("src/main/java/GradualDesk.java");
    private static final Set<String> FACE = Set.of("boolean part(int)", "int name(int)",
        "boolean token(int,int)", "int wipe()", "int check()", "int place()", "int typeAt(int)",
        "int run()", "int blamed()", "int steps()", "int look(int,int)");
    private static final Set<String> CONSTANTS = Set.of("OK=0", "SYNTAX=1", "ILL=2", "LARGE=3",
        "BLAME=4", "LONG=5", "BAD=-1");
    private static final Set<String> OUTSIDE = Set.of("package", "import", "float", "double",
        "String", "Math", "Integer", "Long", "System", "Arrays", "Object", "null", "throw", "throws",
        "try", "catch", "finally", "synchronized", "assert", "instanceof", "enum", "record",
        "interface", "getClass", "hashCode", "equals", "toString", "clone", "this", "super");
    private static final Set<String> NO_CALLS = Set.of("if", "for", "while", "switch", "return");

    private static int wrong = 0;

    private static void must(boolean holds, String what) {
        if (!holds) {
            wrong++;
            System.out.println(what);
        }
    }

    /** A method of the source: its parameters, its lines, and its body's words. */
    private record Body(int parameters, int lines, List<String> words) { }

    private static String signature(Method m) {
        List<String> parameters = new ArrayList<>();
        for (Class<?> c : m.getParameterTypes()) {
            parameters.add(c.getName());
        }
        return m.getReturnType().getName() + " " + m.getName() + "(" + String.join(",", parameters) + ")";
    }

    private static void face() throws IllegalAccessException {
        Class<GradualDesk> c = GradualDesk.class;
        must(Modifier.isFinal(c.getModifiers()) && Modifier.isPublic(c.getModifiers()), "the class is not public final");
        must(c.getDeclaredClasses().length == 0, "there is a nested class");
        Set<String> methods = new TreeSet<>();
        Set<String> publicNames = new TreeSet<>();
        for (Method m : c.getDeclaredMethods()) {
            if (!Modifier.isPrivate(m.getModifiers())) {
                methods.add(signature(m));
                publicNames.add(m.getName());
                must(Modifier.isPublic(m.getModifiers()) && !Modifier.isStatic(m.getModifiers()), m + " is not as said");
            }
        }
        must(methods.equals(new TreeSet<>(FACE)), "the methods are " + methods);
        for (Method m : c.getDeclaredMethods()) {
            must(!Modifier.isPrivate(m.getModifiers()) || !publicNames.contains(m.getName()), m + " has a public one's name");
        }
        Constructor<?>[] constructors = c.getDeclaredConstructors();
        must(constructors.length == 1 && constructors[0].getParameterCount() == 0
            && Modifier.isPublic(constructors[0].getModifiers()), "the constructor is not as said");
        fields(c);
    }

    private static void fields(Class<?> c) throws IllegalAccessException {
        Set<String> constants = new TreeSet<>();
        int held = 0;
        for (Field f : c.getDeclaredFields()) {
            boolean isStatic = Modifier.isStatic(f.getModifiers());
            held += isStatic ? 0 : 1;
            if (!Modifier.isPrivate(f.getModifiers())) {
                must(isStatic && Modifier.isPublic(f.getModifiers()) && Modifier.isFinal(f.getModifiers()), f + " is visible");
                constants.add(f.getName() + "=" + f.getInt(null));
            }
            must(!isStatic || f.getType() == int.class || f.getType() == long.class, f + " is static");
            Class<?> type = f.getType().isArray() ? f.getType().getComponentType() : f.getType();
            must(type.isPrimitive() && type != float.class && type != double.class, f + " has a type outside");
        }
        must(constants.equals(new TreeSet<>(CONSTANTS)), "the constants are " + constants);
        must(held <= 40, held + " fields");
    }

    private static Map<String, Body> methods(String source) {
        Map<String, Body> found = new HashMap<>();
        Matcher head = Pattern.compile("(?m)^    (?:public|private)[\\w ]* (\\w+)\\(([^)]*)\\) \\{$").matcher(source);
        while (head.find()) {
            int end = source.indexOf("\n    }\n", head.start());
            String text = source.substring(head.end(), end);
            List<String> words = new ArrayList<>();
            Matcher word = Pattern.compile("\\w+|[^\\w\\s]").matcher(text);
            while (word.find()) {
                words.add(word.group());
            }
            int parameters = head.group(2).isEmpty() ? 0 : head.group(2).split(",").length;
            Body before = found.put(head.group(1), new Body(parameters, text.split("\n").length + 1, words));
            must(before == null, "two methods " + head.group(1));
        }
        return found;
    }

    private static boolean isCall(List<String> words, int i) {
        return i + 1 < words.size() && words.get(i + 1).equals("(")
            && words.get(i).matches("[A-Za-z]\\w*") && !NO_CALLS.contains(words.get(i));
    }

    private static void noCallInArguments(String name, List<String> words) {
        for (int i = 0; i < words.size(); i++) {
            if (isCall(words, i)) {
                int open = 1;
                for (int j = i + 2; open > 0; j++) {
                    must(!isCall(words, j), name + ": a call in the arguments of " + words.get(i));
                    open += words.get(j).equals("(") ? 1 : words.get(j).equals(")") ? -1 : 0;
                }
            }
        }
    }

    private static int depth(String name, Map<String, Body> methods, List<String> above) {
        must(!above.contains(name), "recursion: " + above + " " + name);
        if (above.contains(name)) {
            return 0;
        }
        List<String> chain = new ArrayList<>(above);
        chain.add(name);
        int below = 0;
        List<String> words = methods.get(name).words;
        for (int i = 0; i < words.size(); i++) {
            if (isCall(words, i)) {
                must(methods.containsKey(words.get(i)), name + " calls " + words.get(i));
                below = methods.containsKey(words.get(i)) ? Math.max(below, depth(words.get(i), methods, chain)) : below;
            }
        }
        must(chain.size() <= 6, "calls too deep: " + chain);
        return below + 1;
    }

    private static void source(String text) {
        String bare = text.replaceAll("(?s)/\\*.*?\\*/", "").replaceAll("//[^\n]*", "");
        Matcher word = Pattern.compile("\\w+").matcher(bare);
        while (word.find()) {
            must(!OUTSIDE.contains(word.group()), "outside the language: " + word.group());
        }
        must(!bare.contains("->") && !bare.contains("::") && !bare.contains("\""), "a lambda, reference or text");
        for (String line : bare.split("\n")) {
            must(!line.contains("new ") || line.matches("    private final int\\[\\] \\w+ = new int\\[[A-Z_]+\\];"), "made here: " + line);
        }
        Map<String, Body> methods = methods(bare);
        must(methods.size() == GradualDesk.class.getDeclaredMethods().length + 1, "not every method was read");
        for (Map.Entry<String, Body> m : methods.entrySet()) {
            must(m.getValue().parameters <= 7, m.getKey() + " takes too many parameters");
            must(m.getValue().lines <= 60, m.getKey() + " is too long");
            noCallInArguments(m.getKey(), m.getValue().words);
            depth(m.getKey(), methods, List.of());
        }
    }

    public static void main(String[] args) throws Exception {
        face();
        source(Files.readString(SOURCE));
        System.out.println(wrong == 0 ? "the class keeps to the language" : wrong + " things are outside");
        if (wrong != 0) {
            System.exit(1);
        }
    }
}
