import java.io.IOException;
import java.lang.reflect.Executable;
import java.lang.reflect.Field;
import java.lang.reflect.Method;
import java.lang.reflect.Modifier;
import java.nio.charset.StandardCharsets;
import java.nio.file.Files;
import java.nio.file.Path;
import java.util.ArrayList;
import java.util.HashSet;
import java.util.List;
import java.util.Set;
import java.util.regex.Matcher;
import java.util.regex.Pattern;
import java.util.stream.Stream;

/** The rules of ../shared/LANGUAGE.md that can be read off the class's text and its parts, each by its number. */
public final class LanguageTest {
    private static final Path FILE = Path.of("src", "main", "java", "FlushProofs.java");

    private static final Set<String> IMPORTS = Set.of(
        "java.util.ArrayList", "java.util.Arrays", "java.util.Iterator", "java.util.List", "java.util.NoSuchElementException");
    private static final Set<String> STATIC_TYPES = Set.of(
        "int", "long", "boolean", "char", "String", "int[]", "long[]", "char[]", "byte[]");
    private static final Set<String> FIELD_TYPES = Set.of(
        "int", "long", "short", "byte", "char", "boolean", "String");
    private static final Set<String> EXCEPTIONS = Set.of(
        "IllegalStateException", "IllegalArgumentException", "IndexOutOfBoundsException", "ArithmeticException",
        "UnsupportedOperationException", "NoSuchElementException", "RuntimeException");
    private static final Set<String> LIBRARY = Set.of(
        "System.arraycopy", "Arrays.copyOf", "Arrays.copyOfRange", "Arrays.fill", "List.of");

    private static final int CLASSES = 12;
    private static final int FIELDS = 20;
    private static final int PARAMETERS = 7;
    private static final int LINES = 60;

    private static final List<String> wrong = new ArrayList<>();

    private static void rule(int number, boolean kept, String what) {
        if (!kept) {
            wrong.add("rule " + number + ": " + what);
        }
    }

    private static void due(String what, int got, int want) {
        if (got != want) {
            wrong.add(what + ": " + got + ", due is " + want);
        }
    }

    /** The text with its comments and written texts left out; its lines stay lines. */
    private static String bare(String text) {
        Matcher m = Pattern.compile("\"(\\\\.|[^\"\\\\])*\"|'(\\\\.|[^'\\\\])'|//[^\n]*|(?s:/\\*.*?\\*/)").matcher(text);
        return m.replaceAll(found -> found.group().startsWith("/") ? "\n".repeat(lines(found.group())) : "\"\"");
    }

    private static int lines(String text) {
        return (int) text.chars().filter(c -> c == '\n').count();
    }

    private static List<String> all(String text, String pattern) {
        List<String> found = new ArrayList<>();
        Matcher m = Pattern.compile(pattern).matcher(text);
        while (m.find()) {
            found.add(m.group(1));
        }
        return found;
    }

    private static void lookAtWords(String text) {
        rule(1, all(text, "(?m)^(package\\b.*)").isEmpty(), "a package line");
        for (String name : all(text, "(?m)^import\\s+([^;]+);")) {
            rule(4, IMPORTS.contains(name), "import " + name);
        }
        rule(2, !text.contains("->"), "a lambda");
        rule(2, !text.contains("::"), "a method reference");
        for (String word : all(text, "\\b(synchronized|assert|finally|native|volatile)\\b")) {
            rule(6, false, word);
        }
        // The rules leave some catches and doubles; this class needs none, and so can answer no call by a catch.
        rule(6, all(text, "\\b(try|catch)\\b").isEmpty(), "try or catch");
        rule(3, all(text, "\\b(float|double|Object)\\b").isEmpty(), "float, double or Object");
        rule(6, all(text, "\\b(throw)\\b").size() == all(text, "\\b(throw) new \\w+\\(").size(), "throw of another form");
        for (String name : all(text, "\\bthrow new (\\w+)\\(")) {
            rule(6, EXCEPTIONS.contains(name), "throw new " + name);
        }
        for (String call : all(text, "\\b((?:Math|Integer|Long)\\.\\w+)")) {
            rule(4, !call.endsWith("Exact"), call);
        }
        for (String call : all(text, "\\b((?:System|Arrays|List|Objects|Collections|Thread|Runtime)\\.\\w+)")) {
            rule(4, LIBRARY.contains(call), call);
        }
        rule(5, all(text, "\\b(static\\s*\\{)").isEmpty(), "a static initialiser");
        rule(6, all(text, "\\.(equals|hashCode|toString|getMessage|getClass)\\(").isEmpty(), "equals, hashCode, toString");
        rule(10, all(text, "(\"\"\\s*\\+|\\+\\s*\"\")").isEmpty(), "texts joined by +");
    }

    /** A method's end stands as far to the right as its beginning. */
    private static void lookAtLengths(String text) {
        String[] lines = text.split("\n");
        Pattern head = Pattern.compile("( ++)(?!(?:if|for|while|switch|return|new)\\b)[\\w\\[\\] ]+\\(.*");
        int measured = 0;
        for (int at = 0; at < lines.length; at++) {
            Matcher m = head.matcher(lines[at]);
            boolean opens = lines[at].endsWith("{") || (at + 1 < lines.length && lines[at + 1].contains("throws "));
            if (m.matches() && opens) {
                measured++;
                int end = at;
                while (end < lines.length && !lines[end].equals(m.group(1) + "}")) {
                    end++;
                }
                rule(11, end - at < LINES, "so many lines: " + lines[at].strip());
            }
        }
        due("methods and constructors measured", measured, calls());
    }

    private static int calls() {
        int calls = 0;
        for (Class<?> c : parts()) {
            calls += c.getDeclaredMethods().length + c.getDeclaredConstructors().length;
        }
        return calls;
    }

    private static List<Class<?>> parts() {
        List<Class<?>> parts = new ArrayList<>(List.of(FlushProofs.class.getDeclaredClasses()));
        parts.add(FlushProofs.class);
        return parts;
    }

    private static void lookAtParts(Class<?> part, Set<String> own, Set<String> publics) {
        int fields = 0;
        for (Field f : part.getDeclaredFields()) {
            String type = f.getType().getSimpleName();
            if (Modifier.isStatic(f.getModifiers())) {
                rule(5, Modifier.isFinal(f.getModifiers()) && STATIC_TYPES.contains(type), "static " + f.getName());
            } else {
                fields++;
                String held = type.replace("[]", "");
                rule(3, FIELD_TYPES.contains(held) || own.contains(held), type + " " + f.getName());
            }
        }
        rule(11, fields <= FIELDS, fields + " fields of " + part.getSimpleName());
        List<Executable> calls = new ArrayList<>(List.of(part.getDeclaredMethods()));
        calls.addAll(List.of(part.getDeclaredConstructors()));
        for (Executable e : calls) {
            rule(11, e.getParameterCount() <= PARAMETERS, e.getParameterCount() + " parameters of " + e.getName());
            rule(6, !Set.of("equals", "hashCode", "toString").contains(e.getName()), e.getName() + " of its own");
            boolean face = part == FlushProofs.class && Modifier.isPublic(e.getModifiers());
            rule(1, face || !publics.contains(e.getName()), e.getName() + " of " + part.getSimpleName());
        }
    }

    private static void lookAtClasses() {
        Set<String> own = new HashSet<>();
        Set<String> publics = new HashSet<>();
        for (Class<?> c : FlushProofs.class.getDeclaredClasses()) {
            own.add(c.getSimpleName());
            rule(1, Modifier.isStatic(c.getModifiers()) && !Modifier.isPublic(c.getModifiers())
                && !Modifier.isProtected(c.getModifiers()), "the class " + c.getSimpleName());
            rule(2, c.getDeclaredClasses().length == 0, "classes inside " + c.getSimpleName());
        }
        for (Method m : FlushProofs.class.getDeclaredMethods()) {
            if (Modifier.isPublic(m.getModifiers())) {
                publics.add(m.getName());
            }
        }
        rule(11, own.size() < CLASSES, own.size() + " classes inside");
        for (Class<?> c : parts()) {
            lookAtParts(c, own, publics);
        }
    }

    private static void lookForOtherFiles() throws IOException {
        try (Stream<Path> files = Files.walk(Path.of("src", "main"))) {
            rule(1, files.filter(Files::isRegularFile).toList().equals(List.of(FILE)), "the program is one file");
        }
    }

    public static void main(String[] args) throws IOException {
        String text = Files.readString(FILE, StandardCharsets.UTF_8);
        rule(3, text.chars().allMatch(c -> c < 256), "characters beyond 255");
        String bare = bare(text);
        lookAtWords(bare);
        lookAtLengths(bare);
        lookAtClasses();
        lookForOtherFiles();
        for (String line : wrong) {
            System.out.println(line);
        }
        System.out.println(wrong.isEmpty() ? "the class keeps to the rules" : wrong.size() + " rules are not kept");
        if (!wrong.isEmpty()) {
            System.exit(1);
        }
    }
}
