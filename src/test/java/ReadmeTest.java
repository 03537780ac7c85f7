import java.io.IOException;
import java.lang.reflect.Method;
import java.lang.reflect.Modifier;
import java.nio.charset.StandardCharsets;
import java.nio.file.Files;
import java.nio.file.Path;
import java.util.ArrayList;
import java.util.Comparator;
import java.util.List;
import java.util.concurrent.TimeUnit;
import java.util.regex.Matcher;
import java.util.regex.Pattern;
import java.util.stream.Stream;

/**
 * What README.md says is so: its example prints what stands there, its commands end well, and every test is named in
 * it. The commands are played in a directory that has nothing but the sources and the shared documents.
 */
public final class ReadmeTest {
    /** It plays this test, too, and is what is under way here. */
    private static final String WHOLE = ".ci/run\n";
    private static final int MINUTES = 5;

    private static final List<String> wrong = new ArrayList<>();

    private static void due(String what, Object got, Object want) {
        if (!want.equals(got)) {
            wrong.add(what + ": " + got + ", due is " + want);
        }
    }

    private static List<String> blocks(String text, String kind) {
        List<String> found = new ArrayList<>();
        Matcher m = Pattern.compile("(?m)^```" + kind + "\n((?s:.*?))^```$").matcher(text);
        while (m.find()) {
            found.add(m.group(1));
        }
        return found;
    }

    /** A directory like a new checkout, with ../shared beside it. */
    private static Path checkout(Path top, String example) throws IOException {
        Path made = Files.createDirectory(top.resolve("main"));
        Files.createSymbolicLink(made.resolve("src"), Path.of("src").toRealPath());
        Files.createSymbolicLink(top.resolve("shared"), Path.of("..", "shared").toRealPath());
        Files.writeString(made.resolve("Example.java"), example);
        return made;
    }

    /** What commands print; they are to end with 0. What a machine itself may say goes elsewhere. */
    private static String played(Path where, String commands) throws IOException, InterruptedException {
        Path printed = Files.createTempFile(where, "printed", ".txt");
        ProcessBuilder shell = new ProcessBuilder("sh", "-e", "-c", commands);
        shell.directory(where.toFile()).redirectOutput(printed.toFile()).redirectError(ProcessBuilder.Redirect.INHERIT);
        Process process = shell.start();
        if (!process.waitFor(MINUTES, TimeUnit.MINUTES)) {
            process.destroyForcibly();
            wrong.add("does not end: " + commands);
            return "";
        }
        String text = Files.readString(printed, StandardCharsets.UTF_8);
        if (process.exitValue() != 0) {
            wrong.add("ends with " + process.exitValue() + ": " + commands + text);
        }
        return text;
    }

    private static void playCommands(Path where, String readme) throws IOException, InterruptedException {
        List<String> commands = blocks(readme, "sh");
        due("the blocks of commands", commands.size(), 4);
        due("the whole of the tests stands there", commands.contains(WHOLE), true);
        due(".ci/run can be run", Files.isExecutable(Path.of(".ci", "run")), true);
        List<String> printed = new ArrayList<>();
        for (String block : commands) {
            if (!block.equals(WHOLE)) {
                printed.add(played(where, block));
            }
        }
        due("what the example prints", printed.get(0), blocks(readme, "text").get(0));
    }

    private static void lookForNames(String readme) throws IOException {
        try (Stream<Path> files = Files.list(Path.of("src", "test", "java"))) {
            for (Path file : (Iterable<Path>) files.sorted()::iterator) {
                String name = file.getFileName().toString().replace(".java", "");
                boolean named = readme.contains("`" + name + "`") || name.matches("Promise(0[2-9]|1[0-6])[A-Z]\\w*Test");
                due(name + " is named", named, true);
            }
        }
        Matcher m = Pattern.compile("`(\\w+Test)`").matcher(readme);
        while (m.find()) {
            due(m.group(1) + " is there", Files.exists(Path.of("src", "test", "java", m.group(1) + ".java")), true);
        }
        for (Method method : FlushProofs.class.getDeclaredMethods()) {
            if (Modifier.isPublic(method.getModifiers())) {
                due(method.getName() + " is told of", readme.contains("`" + method.getName() + "("), true);
            }
        }
    }

    private static void remove(Path top) throws IOException {
        try (Stream<Path> files = Files.walk(top)) {
            for (Path file : (Iterable<Path>) files.sorted(Comparator.reverseOrder())::iterator) {
                Files.delete(file);
            }
        }
    }

    public static void main(String[] args) throws IOException, InterruptedException {
        String readme = Files.readString(Path.of("README.md"), StandardCharsets.UTF_8);
        Path top = Files.createTempDirectory("readme");
        due("the example", blocks(readme, "java").size(), 1);
        due("what it prints", blocks(readme, "text").size(), 1);
        if (wrong.isEmpty()) {
            playCommands(checkout(top, blocks(readme, "java").get(0)), readme);
        }
        remove(top);
        lookForNames(readme);
        for (String line : wrong) {
            System.out.println(line);
        }
        System.out.println(wrong.isEmpty() ? "README.md is as due" : wrong.size() + " lines are not as due");
        if (!wrong.isEmpty()) {
            System.exit(1);
        }
    }
}
