import java.net.URL;
import java.net.URLClassLoader;
import java.nio.file.Files;
import java.nio.file.Path;
import java.util.regex.Matcher;
import java.util.regex.Pattern;
import java.util.stream.Stream;
import javax.tools.ToolProvider;

/** README.md's example is compiled and answers as it says, and every test is named there. Runs in the project's folder. */
public final class ReadmeTest {
    private static final Check CHECK = new Check("ReadmeTest");
    private static final Pattern BLOCK = Pattern.compile("```java\\n(.*?)```", Pattern.DOTALL);
    private static final Pattern CALL = Pattern.compile("((?:cap\\.|tell\\().*\\)); +// (-?\\d+|true|false): .*");

    public static void main(String[] args) throws Exception {
        String readme = Files.readString(Path.of("README.md"));
        testsNamed(readme);
        CHECK.due("the command that runs all tests", readme.contains("    bash .ci/run\n"), true);
        Path folder = Files.createTempDirectory("readme");
        try {
            String[] wrong = run(folder, source(readme));
            CHECK.due("README.md's example: " + String.join(" ", wrong), wrong.length, 0);
        } finally {
            Files.deleteIfExists(folder.resolve("Example.class"));
            Files.deleteIfExists(folder.resolve("Example.java"));
            Files.deleteIfExists(folder);
        }
        CHECK.end();
    }

    private static void testsNamed(String readme) throws Exception {
        try (Stream<Path> files = Files.list(Path.of("src/test/java"))) {
            for (Path file : files.toList()) {
                String name = file.getFileName().toString().replace(".java", "");
                boolean named = Pattern.compile("\\| (\\w+, )*" + name + "(, \\w+)* \\|").matcher(readme).find();
                CHECK.due(name + " is in the table", named, name.endsWith("Test"));
            }
        }
    }

    /** The first block is a method, the second one calls, each with its answer behind it. */
    private static String source(String readme) {
        Matcher block = BLOCK.matcher(readme);
        CHECK.due("a method is there", block.find(), true);
        String method = block.group(1);
        CHECK.due("calls are there", block.find(), true);
        StringBuilder body = new StringBuilder();
        int calls = 0;
        for (String line : block.group(1).split("\n")) {
            Matcher call = CALL.matcher(line);
            boolean answers = call.matches();
            calls += answers ? 1 : 0;
            body.append(answers ? "due(wrong, " + literal(call.group(1)) + ", " + call.group(1) + ", " + call.group(2)
                    + ");" : line).append('\n');
        }
        CHECK.due("calls with an answer", calls >= 15, true);
        return "public class Example {\n" + method
                + "static void due(java.util.List<String> wrong, String call, Object got, Object want) {\n"
                + "if (!got.equals(want)) { wrong.add(call + \" answered \" + got + \", not \" + want + \";\"); } }\n"
                + "public static String[] run() { java.util.List<String> wrong = new java.util.ArrayList<>();\n"
                + body + "return wrong.toArray(new String[0]); } }\n";
    }

    private static String literal(String text) {
        return "\"" + text.replace("\"", "\\\"") + "\"";
    }

    private static String[] run(Path folder, String source) throws Exception {
        Path file = folder.resolve("Example.java");
        Files.writeString(file, source);
        int code = ToolProvider.getSystemJavaCompiler().run(null, null, null, "-proc:none", "-cp",
                System.getProperty("java.class.path"), "-d", folder.toString(), file.toString());
        if (code != 0) {
            return new String[] {"it isn't compiled"};
        }
        try (URLClassLoader loader = new URLClassLoader(new URL[] {folder.toUri().toURL()})) {
            Class<?> type = loader.loadClass("Example");
            return (String[]) type.getMethod("run").invoke(null);
        }
    }
}
