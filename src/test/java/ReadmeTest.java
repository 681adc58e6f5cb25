import java.io.IOException;
import java.lang.reflect.Field;
import java.lang.reflect.Method;
import java.lang.reflect.Modifier;
import java.net.URL;
import java.net.URLClassLoader;
import java.nio.file.DirectoryStream;
import java.nio.file.Files;
import java.nio.file.Path;
import java.util.function.BiConsumer;
import java.util.regex.MatchResult;
import java.util.regex.Matcher;
import java.util.regex.Pattern;
import javax.tools.ToolProvider;

/** What README.md says is so when tried: its examples, the constants, the calls, the tests that it names. */
public final class ReadmeTest {
    private static final Pattern BLOCK = Pattern.compile("(?s)```java\n(.*?)```");
    private static final Pattern ANSWER =
        Pattern.compile("(?m)^(x\\.\\w+\\([^;]*\\)); +// (-?\\d+|[A-Z]+)(?=:|$).*$");

    public static void main(String[] args) throws IOException, ReflectiveOperationException {
        String page = Files.readString(Path.of("README.md"));
        examples(page);
        callsAndConstants(page);
        tests(page);
        Trial.end("ReadmeTest");
    }

    private static void examples(String page) throws IOException, ReflectiveOperationException {
        StringBuilder code = new StringBuilder();
        Matcher block = BLOCK.matcher(page);
        while (block.find()) code.append(block.group(1));
        long answers = ANSWER.matcher(code).results().count();
        long comments = Pattern.compile("//").matcher(code).results().count();
        Trial.due("examples with a comment that are tried", answers, comments);
        Trial.due("there are examples", answers > 30 ? 1 : 0, 1);
        runExamples(ANSWER.matcher(code).replaceAll(ReadmeTest::asTried));
    }

    private static String asTried(MatchResult example) {
        String due = example.group(2).matches("[A-Z]+") ? "CanalRings." + example.group(2) : example.group(2);
        return "due.accept(\"" + example.group(1) + "\", new long[] {" + example.group(1) + ", " + due + "});";
    }

    /** The examples stand in a class of their own loader, which sees what is public alone: as a user would. */
    private static void runExamples(String code) throws IOException, ReflectiveOperationException {
        Path room = Files.createTempDirectory("readme");
        Path source = room.resolve("ReadmeExamples.java");
        Files.writeString(source, "public final class ReadmeExamples {\n"
            + "public static void run(java.util.function.BiConsumer<String, long[]> due) {\n" + code + "}\n}\n");
        int failed = ToolProvider.getSystemJavaCompiler().run(null, null, null, "-cp",
            System.getProperty("java.class.path"), "-d", room.toString(), source.toString());
        Trial.due("the examples compile", failed, 0);
        if (failed == 0) {
            try (URLClassLoader loader = new URLClassLoader(new URL[] {room.toUri().toURL()})) {
                BiConsumer<String, long[]> due = (call, numbers) -> Trial.due(call, numbers[0], numbers[1]);
                loader.loadClass("ReadmeExamples").getMethod("run", BiConsumer.class).invoke(null, due);
            }
        }
        try (DirectoryStream<Path> made = Files.newDirectoryStream(room)) {
            for (Path file : made) Files.delete(file);
        }
        Files.delete(room);
    }

    private static void callsAndConstants(String page) throws ReflectiveOperationException {
        for (Method call : CanalRings.class.getDeclaredMethods()) {
            if (!Modifier.isPublic(call.getModifiers())) continue;
            Trial.due("names " + call.getName(), page.contains("`" + call.getName() + "`") ? 1 : 0, 1);
        }
        for (Field constant : CanalRings.class.getFields()) {
            String line = "| `" + constant.getName() + "` | " + constant.getInt(null) + " |";
            Trial.due("has " + line, page.contains(line) ? 1 : 0, 1);
        }
    }

    private static void tests(String page) throws IOException {
        Matcher named = Pattern.compile("`(\\w+Test)`").matcher(page);
        while (named.find()) {
            Path file = Path.of("src/test/java", named.group(1) + ".java");
            Trial.due(file + " is there", Files.exists(file) ? 1 : 0, 1);
        }
        try (DirectoryStream<Path> there = Files.newDirectoryStream(Path.of("src/test/java"), "*Test.java")) {
            for (Path file : there) {
                String name = file.getFileName().toString().replace(".java", "");
                Trial.due("names " + name, page.contains("`" + name + "`") ? 1 : 0, 1);
            }
        }
        Trial.due("names the command", page.contains("```sh\n.ci/run\n```") ? 1 : 0, 1);
        Trial.due("the command can be run", Files.isExecutable(Path.of(".ci/run")) ? 1 : 0, 1);
    }
}
