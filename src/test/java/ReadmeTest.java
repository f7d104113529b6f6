import java.io.IOException;
import java.lang.invoke.MethodHandles;
import java.nio.file.Files;
import java.nio.file.Path;
import java.util.ArrayList;
import java.util.List;
import java.util.regex.Matcher;
import java.util.regex.Pattern;
import java.util.stream.Stream;
import javax.tools.ToolProvider;

/** README.md: what it shows answers so, and it names every test and every class inside the program. */
public final class ReadmeTest {
    private static final Path README = Path.of("README.md");
    private static final Path TESTS = Path.of("src/test/java");
    private static final Pattern BLOCK = Pattern.compile("```java\n(.*?)```", Pattern.DOTALL);
    private static final Pattern SHOWN = Pattern.compile("(x\\..*\\));\\s+// (-?[0-9]+|true|false|NONE|NOTHING)(:.*)?");
    private static final String[] DUE_TO_BE_SHOWN = {"new StrayWool()", "x.feed(", "x.end(", "x.upland(", "x.fault(",
        "x.days(", "x.ask(", "x.image(", "x.octet(", "x.on("};

    public static void main(String[] args) throws Exception {
        String readme = Files.readString(README);
        List<String> helpers = new ArrayList<>();
        List<String> lines = new ArrayList<>();
        Matcher block = BLOCK.matcher(readme);
        while (block.find()) {
            boolean isHelper = block.group(1).startsWith("static ");
            block.group(1).lines().forEach(line -> (isHelper ? helpers : lines).add(isHelper ? line : held(line)));
        }
        for (String call : DUE_TO_BE_SHOWN) {
            Due.is("README.md shows " + call, lines.stream().anyMatch(line -> line.contains(call)), true);
        }
        run(source(helpers, lines));
        names(readme);
        Due.close("ReadmeTest");
    }

    /** A call that is shown with its answer, as one that is held against it; other lines stay. */
    private static String held(String line) {
        Matcher shown = SHOWN.matcher(line);
        if (!shown.matches()) {
            Due.is("README.md shows an answer of: " + line, line.startsWith("x."), false);
            return line;
        }
        String answer = shown.group(2).startsWith("NO") ? "StrayWool." + shown.group(2) : shown.group(2);
        String name = line.replace("\\", "\\\\").replace("\"", "\\\"");
        return "Due.is(\"README.md: " + name + "\", " + shown.group(1) + ", " + answer + ");";
    }

    private static String source(List<String> helpers, List<String> lines) {
        return "import java.nio.ByteBuffer;\nimport java.nio.charset.StandardCharsets;\nimport java.util.Arrays;\n"
                + "final class Shown implements Runnable {\n" + String.join("\n", helpers)
                + "\npublic void run() {\n" + String.join("\n", lines) + "\n}\n}\n";
    }

    /** Defined beside the tests, so that it may use their helpers. */
    private static void run(String source) throws Exception {
        Path folder = Files.createTempDirectory("readme");
        Path file = folder.resolve("Shown.java");
        Path made = folder.resolve("Shown.class");
        try {
            Files.writeString(file, source);
            int failed = ToolProvider.getSystemJavaCompiler().run(null, null, null, "-cp",
                    System.getProperty("java.class.path"), "-d", folder.toString(), file.toString());
            Due.is("README.md compiles", failed, 0);
            if (failed == 0) {
                Class<?> shown = MethodHandles.lookup().defineClass(Files.readAllBytes(made));
                ((Runnable) shown.getDeclaredConstructor().newInstance()).run();
            }
        } finally {
            Files.deleteIfExists(made);
            Files.deleteIfExists(file);
            Files.deleteIfExists(folder);
        }
    }

    private static void names(String readme) throws IOException {
        Due.is("README.md tells how tests are run", readme.contains(".ci/run"), true);
        try (Stream<Path> files = Files.list(TESTS)) {
            for (Path file : files.toList()) {
                String name = file.getFileName().toString().replace(".java", "");
                if (name.endsWith("Test")) {
                    Due.is("README.md names " + name, readme.contains("`" + name + "`"), true);
                }
            }
        }
        Matcher named = Pattern.compile("`([A-Z][A-Za-z]*Test)`").matcher(readme);
        while (named.find()) {
            Due.is("there is " + named.group(1), Files.exists(TESTS.resolve(named.group(1) + ".java")), true);
        }
        for (Class<?> inside : StrayWool.class.getDeclaredClasses()) {
            Due.is("README.md names " + inside.getSimpleName(), readme.contains("`" + inside.getSimpleName() + "`"), true);
        }
    }
}
