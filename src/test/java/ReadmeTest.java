import java.io.ByteArrayOutputStream;
import java.io.IOException;
import java.io.InputStream;
import java.io.PrintStream;
import java.lang.reflect.Method;
import java.lang.reflect.Modifier;
import java.net.URL;
import java.net.URLClassLoader;
import java.nio.charset.StandardCharsets;
import java.nio.file.Files;
import java.nio.file.Path;
import java.util.stream.Stream;
import javax.tools.ToolProvider;

/** README.md holds: its example compiles and prints what it says, and no call or test is left out. */
public final class ReadmeTest {
    private static final Check CHECK = new Check("ReadmeTest");

    public static void main(String[] args) throws IOException, ReflectiveOperationException {
        String page = Files.readString(Path.of("README.md"), StandardCharsets.US_ASCII);
        example(block(page, "java"), block(page, "text"));
        for (Method m : CrankedExcuse.class.getDeclaredMethods()) {
            if (Modifier.isPublic(m.getModifiers())) {
                CHECK.due("told: " + m.getName(), page.contains("`" + m.getName() + "`"));
            }
        }
        try (Stream<Path> files = Files.list(Path.of("src/test/java"))) {
            files.map(file -> file.getFileName().toString().replace(".java", ""))
                    .filter(name -> name.endsWith("Test"))
                    .forEach(name -> CHECK.due("told: " + name, page.contains("`" + name + "`")));
        }
        CHECK.due("how the tests are run", block(page, "sh").contains("javac") && page.contains("\nbash .ci/run\n"));
        CHECK.end();
    }

    /** The first block of that kind, without its fences. */
    private static String block(String page, String kind) {
        String fence = "```" + kind + "\n";
        int start = page.indexOf(fence);
        int end = start < 0 ? -1 : page.indexOf("```", start + fence.length());
        CHECK.due("a block of " + kind, end > 0);
        return end > 0 ? page.substring(start + fence.length(), end) : "";
    }

    private static void example(String code, String want) throws IOException, ReflectiveOperationException {
        Path folder = Files.createTempDirectory("readme");
        Path source = folder.resolve("Example.java");
        Files.writeString(source, code);
        int rc = ToolProvider.getSystemJavaCompiler().run(InputStream.nullInputStream(), System.out, System.out,
                "-cp", System.getProperty("java.class.path"), "-d", folder.toString(), source.toString());
        CHECK.due("the example compiles", rc, 0);
        if (rc == 0) {
            String got = printed(folder);
            CHECK.due("the example prints " + got, got.equals(want));
        }
        for (String name : new String[] {"Example.class", "Example.java", ""}) {
            Files.deleteIfExists(folder.resolve(name));
        }
    }

    private static String printed(Path folder) throws IOException, ReflectiveOperationException {
        ByteArrayOutputStream bytes = new ByteArrayOutputStream();
        PrintStream out = System.out;
        try (URLClassLoader loader = new URLClassLoader(new URL[] {folder.toUri().toURL()})) {
            System.setOut(new PrintStream(bytes, true));
            loader.loadClass("Example").getMethod("main", String[].class).invoke(null, (Object) new String[0]);
        } finally {
            System.setOut(out);
        }
        return bytes.toString(StandardCharsets.US_ASCII).replace(System.lineSeparator(), "\n");
    }
}
