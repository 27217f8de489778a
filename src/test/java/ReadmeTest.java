import java.io.ByteArrayOutputStream;
import java.io.IOException;
import java.io.PrintStream;
import java.lang.reflect.Method;
import java.lang.reflect.Modifier;
import java.net.URL;
import java.net.URLClassLoader;
import java.nio.file.Files;
import java.nio.file.Path;
import java.util.Comparator;
import java.util.List;
import java.util.stream.Stream;
import javax.tools.ToolProvider;

/** README.md: its example compiles and prints what stands there, and no call or test is left out. */
public final class ReadmeTest {
    private static final Path TESTS = Path.of("src/test/java");

    /** The first block of a kind that is fenced in the text. */
    private static String block(String readme, String kind) {
        String fence = "```";
        int begin = readme.indexOf(fence + kind + "\n");
        int end = readme.indexOf("\n" + fence, begin + 1);
        if (begin < 0 || end < 0) {
            return "";
        }
        return readme.substring(begin + fence.length() + kind.length() + 1, end + 1);
    }

    private static String printed(Path folder, String example) throws Exception {
        Path source = folder.resolve("Example.java");
        Files.writeString(source, example);
        int failed = ToolProvider.getSystemJavaCompiler().run(null, null, null, "-cp",
                System.getProperty("java.class.path"), "-d", folder.toString(), source.toString());
        Checks.due("the example compiles", failed, 0);
        PrintStream out = System.out;
        ByteArrayOutputStream caught = new ByteArrayOutputStream();
        try (URLClassLoader loader = new URLClassLoader(new URL[] {folder.toUri().toURL()})) {
            Method main = loader.loadClass("Example").getMethod("main", String[].class);
            System.setOut(new PrintStream(caught, true));
            main.invoke(null, (Object) new String[0]);
        } finally {
            System.setOut(out);
        }
        return caught.toString().replace(System.lineSeparator(), "\n");
    }

    private static void remove(Path folder) throws IOException {
        try (Stream<Path> all = Files.walk(folder)) {
            for (Path each : all.sorted(Comparator.reverseOrder()).toList()) {
                Files.delete(each);
            }
        }
    }

    private static List<String> tests() throws IOException {
        try (Stream<Path> all = Files.list(TESTS)) {
            return all.map(each -> each.getFileName().toString()).filter(name -> name.endsWith("Test.java"))
                    .map(name -> name.replace(".java", "")).toList();
        }
    }

    public static void main(String[] args) throws Exception {
        String readme = Files.readString(Path.of("README.md"));
        Path folder = Files.createTempDirectory("readme");
        try {
            Checks.due("the example prints", printed(folder, block(readme, "java")), block(readme, "text"));
        } finally {
            remove(folder);
        }
        for (Method call : HumpYard.class.getDeclaredMethods()) {
            if (Modifier.isPublic(call.getModifiers())) {
                Checks.due("it tells of " + call.getName() + "()", readme.contains("`" + call.getName() + "("), true);
            }
        }
        for (String test : tests()) {
            Checks.due("it tells of " + test, readme.contains("| `" + test + "` |"), true);
        }
        Checks.end();
    }
}
