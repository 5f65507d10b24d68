import java.io.IOException;
import java.lang.reflect.InvocationTargetException;
import java.lang.reflect.Method;
import java.lang.reflect.Modifier;
import java.net.URL;
import java.net.URLClassLoader;
import java.nio.file.Files;
import java.nio.file.Path;
import java.util.ArrayList;
import java.util.List;
import java.util.regex.Matcher;
import java.util.regex.Pattern;
import java.util.stream.Stream;
import javax.tools.JavaCompiler;
import javax.tools.ToolProvider;

/** What README.md shows is so: its blocks are compiled as they stand, and each call answers what is said behind it. */
public final class ReadmeTest extends Check {
    private static final Path README = Path.of(System.getProperty("onevoice.readme", "README.md"));
    private static final Pattern BLOCK = Pattern.compile("(?s)```java\n(.*?)```");
    private static final Pattern CALL = Pattern.compile("voice\\.(\\w+)\\((.*)\\); *// (-?\\d+|[A-Z]+): \\S.*");

    private final List<String> shown = new ArrayList<>();
    private final StringBuilder helpers = new StringBuilder();
    private final StringBuilder statements = new StringBuilder();

    public static void main(String[] args) throws IOException, ReflectiveOperationException {
        about("README.md");
        String readme = Files.readString(README);
        ReadmeTest test = new ReadmeTest();
        Matcher block = BLOCK.matcher(readme);
        while (block.find()) {
            test.take(block.group(1));
        }
        test.showsEveryCall();
        test.compileAndRun();
        namesEveryTest(readme);
        end();
    }

    /** Known to what is made of the blocks, in a class of its own. */
    public static void answered(String call, int got, int want) {
        due(call, got, want);
    }

    private void take(String block) {
        if (block.startsWith("static")) {
            helpers.append(block);
            return;
        }
        for (String line : block.split("\n")) {
            Matcher call = CALL.matcher(line);
            if (call.matches()) {
                String made = "voice." + call.group(1) + "(" + call.group(2) + ")";
                String due = call.group(3).matches("[A-Z]+") ? "OneVoice." + call.group(3) : call.group(3);
                shown.add(call.group(1));
                statements.append("ReadmeTest.answered(\"").append(made.replace("\\", "\\\\").replace("\"", "\\\""))
                    .append("\", ").append(made).append(", ").append(due).append(");\n");
            } else {
                statements.append(line).append('\n');
                if (line.startsWith("voice.")) {
                    fail("no answer stands behind " + line);
                }
            }
        }
    }

    private void showsEveryCall() {
        for (Method method : OneVoice.class.getDeclaredMethods()) {
            boolean open = Modifier.isPublic(method.getModifiers());
            if (open && !shown.contains(method.getName())) {
                fail("no call of " + method.getName() + " is shown with its answer");
            }
        }
    }

    private void compileAndRun() throws IOException, ReflectiveOperationException {
        JavaCompiler compiler = ToolProvider.getSystemJavaCompiler();
        if (compiler == null) {
            fail("there is no compiler");
            return;
        }
        Path folder = Files.createTempDirectory("readme");
        Path source = folder.resolve("Shown.java");
        Files.writeString(source, "public final class Shown {\n" + helpers + "public static void main(String[] args) {\n"
            + statements + "}\n}\n");
        String path = System.getProperty("java.class.path");
        if (compiler.run(null, null, null, "-cp", path, "-d", folder.toString(), source.toString()) == 0) {
            try (URLClassLoader loader = new URLClassLoader(new URL[] {folder.toUri().toURL()})) {
                loader.loadClass("Shown").getMethod("main", String[].class).invoke(null, (Object) new String[0]);
            } catch (InvocationTargetException e) {
                fail("a call threw " + e.getCause());
            }
        } else {
            fail("its blocks do not compile");
        }
        Files.deleteIfExists(folder.resolve("Shown.class"));
        Files.delete(source);
        Files.delete(folder);
    }

    private static void namesEveryTest(String readme) throws IOException {
        Path tests = README.toAbsolutePath().resolveSibling("src/test/java");
        try (Stream<Path> files = Files.list(tests)) {
            files.map(file -> file.getFileName().toString().replace(".java", ""))
                .filter(name -> !readme.contains("`" + name + "`"))
                .forEach(name -> fail("it does not name " + name));
        }
        Matcher named = Pattern.compile("`(\\w+Test)`").matcher(readme);
        while (named.find()) {
            if (!Files.exists(tests.resolve(named.group(1) + ".java"))) {
                fail("there is no " + named.group(1));
            }
        }
        if (!Files.isExecutable(README.toAbsolutePath().resolveSibling(".ci/run"))) {
            fail(".ci/run cannot be run");
        }
    }
}
