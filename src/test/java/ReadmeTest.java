import java.io.ByteArrayOutputStream;
import java.io.IOException;
import java.io.PrintStream;
import java.lang.reflect.Method;
import java.lang.reflect.Modifier;
import java.net.URL;
import java.net.URLClassLoader;
import java.nio.charset.StandardCharsets;
import java.nio.file.DirectoryStream;
import java.nio.file.Files;
import java.nio.file.Path;
import javax.tools.JavaCompiler;
import javax.tools.ToolProvider;

/** README.md tells the truth: its example prints what it says, and it names each call, constant and test. */
public final class ReadmeTest {
    public static void main(String[] args) throws Exception {
        String page = Files.readString(Path.of("README.md"));
        example(page);
        calls(page);
        constants(page);
        tests(page);
        Due.end("ReadmeTest");
    }

    private static void example(String page) throws Exception {
        Path folder = Files.createTempDirectory("readme");
        try {
            Path source = Files.writeString(folder.resolve("Example.java"), block(page, "java"));
            boolean isCompiled = compile(source, folder);
            Due.is("README's example compiles", isCompiled, true);
            if (isCompiled) {
                Due.is("README's example", printedBy(folder), block(page, "text"));
            }
        } finally {
            empty(folder);
        }
    }

    /** What stands between a line that opens a block of that kind and the line that ends it. */
    private static String block(String page, String kind) {
        String opening = "```" + kind + "\n";
        int from = page.indexOf(opening);
        int end = page.indexOf("\n```\n", from);
        if (from < 0 || end < 0) {
            return "README has no block of " + kind;
        }
        return page.substring(from + opening.length(), end + 1);
    }

    private static boolean compile(Path source, Path folder) {
        JavaCompiler compiler = ToolProvider.getSystemJavaCompiler();
        String classes = System.getProperty("java.class.path");
        return compiler != null
                && compiler.run(null, null, null, "-cp", classes, "-d", folder.toString(), source.toString()) == 0;
    }

    private static String printedBy(Path folder) throws Exception {
        PrintStream before = System.out;
        ByteArrayOutputStream printed = new ByteArrayOutputStream();
        try (URLClassLoader loader = new URLClassLoader(new URL[] {folder.toUri().toURL()})) {
            System.setOut(new PrintStream(printed, true, StandardCharsets.UTF_8));
            loader.loadClass("Example").getMethod("main", String[].class).invoke(null, (Object) new String[0]);
        } finally {
            System.setOut(before);
        }
        return printed.toString(StandardCharsets.UTF_8).replace(System.lineSeparator(), "\n");
    }

    private static void empty(Path folder) throws IOException {
        try (DirectoryStream<Path> files = Files.newDirectoryStream(folder)) {
            for (Path each : files) {
                Files.delete(each);
            }
        }
        Files.delete(folder);
    }

    private static void calls(String page) {
        for (Method each : DriverMoor.class.getDeclaredMethods()) {
            if (Modifier.isPublic(each.getModifiers())) {
                Due.is("README names " + each.getName(), page.contains("| `" + each.getName() + "("), true);
            }
        }
    }

    private static void constants(String page) {
        for (String each : "NONE GOING FINISHED ABORTED BOUND UNBOUND UNPLUGGED SLEPT WOKEN SHUT".split(" ")) {
            Due.is("README names " + each, page.contains("`" + each + "`"), true);
        }
    }

    private static void tests(String page) throws IOException {
        try (DirectoryStream<Path> files = Files.newDirectoryStream(Path.of("src/test/java"), "*Test.java")) {
            for (Path each : files) {
                String name = each.getFileName().toString().replace(".java", "");
                Due.is("README names " + name, page.contains("| `" + name + "` |"), true);
            }
        }
    }
}
