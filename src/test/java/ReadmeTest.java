import java.io.IOException;
import java.net.URL;
import java.net.URLClassLoader;
import java.nio.file.Files;
import java.nio.file.Path;
import java.util.ArrayList;
import java.util.List;
import java.util.regex.Matcher;
import java.util.regex.Pattern;
import java.util.stream.Stream;
import javax.tools.ToolProvider;

/**
 * README.md: its pieces of Java compile and run, one behind another, and answer what their comments say ("// 33: ..",
 * "// throws .."); it names every call and every test.
 */
public final class ReadmeTest {
    private static final Check CHECK = new Check("ReadmeTest");
    private static final Pattern BLOCK = Pattern.compile("```java\n(.*?)```", Pattern.DOTALL);
    private static final Pattern ANSWER = Pattern.compile("(?s)(?:int|boolean) (\\w+) = .*; *// (-?\\w+)\\b.*");
    private static final Pattern THROWN = Pattern.compile("(.*;) *// throws (\\w+)");

    private final StringBuilder helpers = new StringBuilder();
    private final StringBuilder calls = new StringBuilder();
    private int examples;

    /** A statement goes on to the next line until its semicolon. */
    private static List<String> statements(String block) {
        List<String> all = new ArrayList<>();
        String open = "";
        for (String line : block.split("\n")) {
            open = open.isEmpty() ? line : open + "\n" + line;
            if (open.replaceAll("\"[^\"]*\"", "").contains(";")) {
                all.add(open);
                open = "";
            }
        }
        CHECK.due("the piece ends with a whole statement", "", lastOf(open));
        return all;
    }

    private static Check.Call lastOf(String open) {
        return () -> open;
    }

    private void take(String block) {
        if (block.startsWith("static ")) {
            helpers.append(block);
            return;
        }
        for (String statement : statements(block)) {
            Matcher answer = ANSWER.matcher(statement);
            Matcher thrown = THROWN.matcher(statement);
            if (thrown.matches()) {
                examples++;
                calls.append("try { ").append(thrown.group(1)).append(" seen.add(\"threw nothing: ")
                    .append(thrown.group(1).replace("\"", "'")).append("\"); } catch (").append(thrown.group(2))
                    .append(" e) { if (e.getClass() != ").append(thrown.group(2)).append(".class) seen.add(\"threw \" + e); }\n");
            } else {
                calls.append(statement).append('\n');
            }
            if (answer.matches()) {
                examples++;
                calls.append("if (").append(answer.group(1)).append(" != ").append(answer.group(2)).append(") seen.add(\"")
                    .append(answer.group(1)).append(" is \" + ").append(answer.group(1)).append(");\n");
            }
        }
    }

    private String source() {
        return "import java.nio.ByteBuffer;\nimport java.nio.charset.StandardCharsets;\nimport java.util.*;\n"
            + "public final class ReadmeExample {\n" + helpers + "public static List<String> run() {\n"
            + "List<String> seen = new ArrayList<>();\n" + calls + "return seen;\n}\n}\n";
    }

    private Object run() throws IOException, ReflectiveOperationException {
        Path place = Files.createTempDirectory("readme");
        Path file = place.resolve("ReadmeExample.java");
        try {
            Files.writeString(file, source());
            int failed = ToolProvider.getSystemJavaCompiler().run(null, null, null, "-cp",
                System.getProperty("java.class.path"), "-d", place.toString(), file.toString());
            if (failed != 0) {
                return "does not compile:\n" + source();
            }
            try (URLClassLoader loader = new URLClassLoader(new URL[] {place.toUri().toURL()})) {
                return loader.loadClass("ReadmeExample").getMethod("run").invoke(null);
            }
        } finally {
            Files.deleteIfExists(file);
            Files.deleteIfExists(place.resolve("ReadmeExample.class"));
            Files.deleteIfExists(place);
        }
    }

    private static void names(String readme, Path tests) throws IOException {
        for (java.lang.reflect.Method m : FeastBook.class.getDeclaredMethods()) {
            if (java.lang.reflect.Modifier.isPublic(m.getModifiers())) {
                CHECK.due("names the call " + m.getName(), true, () -> readme.contains("`" + m.getName() + "`"));
            }
        }
        List<String> files = new ArrayList<>();
        try (Stream<Path> all = Files.list(tests)) {
            all.map(p -> p.getFileName().toString()).filter(n -> n.endsWith("Test.java")).forEach(files::add);
        }
        for (String file : files) {
            CHECK.due("names the test " + file, true, () -> readme.contains("`" + file.replace(".java", "") + "`"));
        }
        Matcher named = Pattern.compile("`(\\w+Test)`").matcher(readme);
        while (named.find()) {
            String name = named.group(1);
            CHECK.due(name + " is there", true, () -> files.contains(name + ".java"));
        }
        CHECK.due("says how to run them", true, () -> readme.contains("```sh\n.ci/run\n```"));
    }

    public static void main(String[] args) throws Exception {
        if (args.length < 2) {
            System.out.println("ReadmeTest wants the paths of README.md and of the tests");
            System.exit(1);
        }
        String readme = Files.readString(Path.of(args[0]));
        ReadmeTest test = new ReadmeTest();
        Matcher blocks = BLOCK.matcher(readme);
        while (blocks.find()) {
            test.take(blocks.group(1));
        }
        Object seen = test.run();
        CHECK.due("the examples answer what they show", new ArrayList<String>(), () -> seen);
        CHECK.due("examples were found", true, () -> test.examples >= 25);
        names(readme, Path.of(args[1]));
        System.out.println("ReadmeTest: " + test.examples + " examples");
        CHECK.finish();
    }
}
