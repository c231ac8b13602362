import java.io.File;
import java.io.IOException;
import java.lang.reflect.Method;
import java.lang.reflect.Modifier;
import java.net.URL;
import java.net.URLClassLoader;
import java.nio.file.Files;
import java.nio.file.Path;
import java.util.function.Consumer;
import java.util.regex.Matcher;
import java.util.regex.Pattern;
import java.util.stream.LongStream;
import java.util.stream.Stream;
import javax.tools.JavaCompiler;
import javax.tools.ToolProvider;

/**
 * README.md: each call that it shows is compiled and answers as it shows; each call of the class is
 * shown, each test is named, and the command for the tests is there.
 */
public final class ReadmeTest {
    private static final Path PAGE = Path.of("README.md");
    private static final Path TESTS = Path.of("src/test/java");
    private static final Pattern BLOCK = Pattern.compile("```java\n([\\s\\S]*?)```");
    private static final Pattern CALL = Pattern.compile("(?m)^x\\.(.*);\\s*// (GlebeVowels\\.[A-Z]+|-?\\d+): .*$");
    private static final Pattern COMMAND = Pattern.compile("(?m)^## How to run its tests\n\n    (\\S+)$");

    private ReadmeTest() {
    }

    public static void main(String[] args) throws Exception {
        String page = Files.readString(PAGE);
        Matcher block = BLOCK.matcher(page);
        Due.due("README.md shows a block of calls", block.find() ? 1 : 0, 1);
        String calls = block.group(1);
        everyCallIsShown(calls);
        everyAnswerIsTold(calls);
        answersHold(calls);
        testsAreNamed(page);
        commandIsThere(page);
        Due.end();
    }

    private static void everyCallIsShown(String calls) {
        for (Method method : GlebeVowels.class.getDeclaredMethods()) {
            if (Modifier.isPublic(method.getModifiers())) {
                Due.due("README.md shows " + method.getName(), calls.contains("x." + method.getName() + "(") ? 1 : 0, 1);
            }
        }
    }

    /** A call whose line does not have the form of CALL would not be compared. */
    private static void everyAnswerIsTold(String calls) {
        for (String line : calls.split("\n")) {
            if (line.startsWith("x.")) {
                Due.due("README.md tells the answer in: " + line, CALL.matcher(line).matches() ? 1 : 0, 1);
            }
        }
    }

    /** The block becomes the body of a method that tells each answer and the one that is due. */
    private static void answersHold(String calls) throws Exception {
        String body = CALL.matcher(calls).replaceAll(found -> Matcher.quoteReplacement(
            "told.add(x." + found.group(1) + "); told.add(" + found.group(2) + ");"));
        Path folder = Files.createTempDirectory("readme");
        try {
            Path file = folder.resolve("Shown.java");
            Files.writeString(file, "import java.util.function.Consumer;\nimport java.util.stream.LongStream;\n"
                + "public final class Shown implements Consumer<LongStream.Builder> {\n"
                + "public void accept(LongStream.Builder told) {\n" + body + "}\n}\n");
            JavaCompiler javac = ToolProvider.getSystemJavaCompiler();
            int code = javac.run(null, System.err, System.err, "-encoding", "UTF-8", "-d", folder.toString(),
                "-cp", System.getProperty("java.class.path"), file.toString());
            Due.due("javac of what README.md shows", code, 0);
            compare(calls, code == 0 ? told(folder) : new long[0]);
        } finally {
            delete(folder);
        }
    }

    @SuppressWarnings("unchecked")
    private static long[] told(Path folder) throws Exception {
        URL[] where = {folder.toUri().toURL()};
        LongStream.Builder told = LongStream.builder();
        try (URLClassLoader loader = new URLClassLoader(where, ReadmeTest.class.getClassLoader())) {
            Object shown = loader.loadClass("Shown").getDeclaredConstructor().newInstance();
            ((Consumer<LongStream.Builder>) shown).accept(told);
        }
        return told.build().toArray();
    }

    private static void compare(String calls, long[] told) {
        int at = 0;
        Matcher call = CALL.matcher(calls);
        while (call.find() && at + 1 < told.length) {
            Due.due("README.md: x." + call.group(1), told[at], told[at + 1]);
            at += 2;
        }
        Due.due("answers that README.md shows", at, 2 * CALL.matcher(calls).results().count());
    }

    private static void delete(Path folder) {
        File[] files = folder.toFile().listFiles();
        for (File file : files == null ? new File[0] : files) {
            file.delete();
        }
        folder.toFile().delete();
    }

    private static void testsAreNamed(String page) throws IOException {
        try (Stream<Path> files = Files.list(TESTS)) {
            files.map(file -> file.getFileName().toString()).filter(name -> name.endsWith("Test.java")).forEach(name ->
                Due.due("README.md names " + name, page.contains("`" + name.replace(".java", "") + "`") ? 1 : 0, 1));
        }
        Matcher named = Pattern.compile("`(\\w+Test)`").matcher(page);
        while (named.find()) {
            Due.due(named.group(1) + " is there", Files.exists(TESTS.resolve(named.group(1) + ".java")) ? 1 : 0, 1);
        }
    }

    private static void commandIsThere(String page) {
        Matcher command = COMMAND.matcher(page);
        Due.due("README.md names a command for the tests", command.find() ? 1 : 0, 1);
        Due.due(command.group(1) + " can be run", Files.isExecutable(Path.of(command.group(1))) ? 1 : 0, 1);
    }
}
