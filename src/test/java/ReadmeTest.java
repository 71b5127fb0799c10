import java.io.IOException;
import java.lang.reflect.Method;
import java.lang.reflect.Modifier;
import java.net.URL;
import java.net.URLClassLoader;
import java.nio.file.DirectoryStream;
import java.nio.file.Files;
import java.nio.file.Path;
import java.util.regex.Matcher;
import java.util.regex.Pattern;
import javax.tools.ToolProvider;

/** README.md: its example compiles as it stands and its answers are those of the class; it names the tests. */
public final class ReadmeTest {
    private static final Pattern BLOCK = Pattern.compile("(?s)\n```java\n(.*?)\n```\n");
    private static final Pattern ANSWERED = Pattern.compile("(?m)^ *(x\\.\\w+\\(.*\\)); +// (-?\\d+)\\b.*$");
    /** A call outside a loop: it stands at the indent of main. */
    private static final Pattern CALL = Pattern.compile("(?m)^ {8}x\\.\\w+\\(.*$");

    public static void main(String[] args) throws IOException, ReflectiveOperationException {
        Path root = Path.of(args[0]).toAbsolutePath().normalize().getParent().getParent().getParent().getParent();
        String page = Files.readString(root.resolve("README.md"));
        Check.promise("README.md: an example whose answers are those of the class");
        example(page);
        Check.promise("README.md: every call");
        everyCall(page);
        Check.promise("README.md: how its tests are run");
        tests(page, root);
        Check.close();
    }

    /** Public, since the example is loaded apart from the tests. */
    public static void due(String call, long got, long want) {
        Check.due(call, got, want);
    }

    private static void example(String page) throws IOException, ReflectiveOperationException {
        Matcher block = BLOCK.matcher(page);
        boolean found = block.find();
        Check.due("examples", found ? 1 : 0, 1);
        if (!found) {
            return;
        }
        String code = block.group(1);
        Check.due("calls without an answer", CALL.matcher(code).results().count(), ANSWERED.matcher(code).results().count());
        Path build = Files.createTempDirectory("readme");
        try {
            compileAndRun(build, code);
        } finally {
            clear(build);
        }
    }

    private static void compileAndRun(Path build, String code) throws IOException, ReflectiveOperationException {
        Path source = build.resolve("Example.java");
        String checked = ANSWERED.matcher(code).replaceAll(
            line -> Matcher.quoteReplacement("ReadmeTest.due(\"" + line.group(1) + "\", " + line.group(1) + ", " + line.group(2) + "L);"));
        Files.writeString(source, checked);
        int exit = ToolProvider.getSystemJavaCompiler().run(null, null, null,
            "-cp", System.getProperty("java.class.path"), "-d", build.toString(), source.toString());
        Check.due("the example compiles", exit, 0);
        if (exit == 0) {
            try (URLClassLoader loader = new URLClassLoader(new URL[] {build.toUri().toURL()})) {
                loader.loadClass("Example").getMethod("main", String[].class).invoke(null, (Object) new String[0]);
            }
        }
    }

    private static void clear(Path build) throws IOException {
        try (DirectoryStream<Path> files = Files.newDirectoryStream(build)) {
            for (Path file : files) {
                Files.delete(file);
            }
        }
        Files.delete(build);
    }

    private static void everyCall(String page) {
        for (Method method : StrikeDays.class.getDeclaredMethods()) {
            if (Modifier.isPublic(method.getModifiers())) {
                Check.due(method.getName(), page.contains("x." + method.getName() + "(") ? 1 : 0, 1);
            }
        }
    }

    private static void tests(String page, Path root) throws IOException {
        Check.due("the command", page.contains("```sh\n.ci/run\n```") ? 1 : 0, 1);
        Check.due("it can be run", Files.isExecutable(root.resolve(".ci/run")) ? 1 : 0, 1);
        try (DirectoryStream<Path> files = Files.newDirectoryStream(root.resolve("src/test/java"), "*Test.java")) {
            for (Path file : files) {
                String name = file.getFileName().toString().replace(".java", "");
                Check.due(name, page.contains("| `" + name + "` |") ? 1 : 0, 1);
            }
        }
    }
}
