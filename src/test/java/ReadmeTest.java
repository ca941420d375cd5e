import java.io.ByteArrayOutputStream;
import java.io.PrintStream;
import java.net.URL;
import java.net.URLClassLoader;
import java.nio.charset.StandardCharsets;
import java.nio.file.Files;
import java.nio.file.Path;
import java.util.Comparator;
import java.util.List;
import java.util.stream.Stream;
import javax.tools.ToolProvider;

/** The program in README.md compiles with the class, and prints what README.md says. */
public final class ReadmeTest {
    public static void main(String[] args) throws Exception {
        String readme = Files.readString(Path.of("README.md"));
        Path out = Files.createTempDirectory("readme");
        try {
            Path mine = out.resolve("Mine.java");
            Files.writeString(mine, block(readme, "java"));
            int code = ToolProvider.getSystemJavaCompiler().run(null, null, null, "-d", out.toString(),
                "src/main/java/LastPages.java", mine.toString());
            Checks.due("README.md: the program compiles", code, 0);
            Checks.same("README.md: what it prints", code == 0 ? printed(out) : "", block(readme, "text"));
        } finally {
            remove(out);
        }
        Checks.end();
    }

    private static String block(String readme, String kind) {
        int from = readme.indexOf("```" + kind + "\n") + kind.length() + 4;
        return readme.substring(from, readme.indexOf("```", from));
    }

    private static String printed(Path out) throws Exception {
        ByteArrayOutputStream bytes = new ByteArrayOutputStream();
        PrintStream before = System.out;
        ClassLoader platform = ClassLoader.getPlatformClassLoader();
        try (URLClassLoader loader = new URLClassLoader(new URL[] {out.toUri().toURL()}, platform)) {
            System.setOut(new PrintStream(bytes, true, StandardCharsets.UTF_8));
            loader.loadClass("Mine").getMethod("main", String[].class).invoke(null, (Object) new String[0]);
        } finally {
            System.setOut(before);
        }
        return bytes.toString(StandardCharsets.UTF_8).replace("\r\n", "\n");
    }

    private static void remove(Path folder) throws Exception {
        List<Path> all;
        try (Stream<Path> walk = Files.walk(folder)) {
            all = walk.sorted(Comparator.reverseOrder()).toList();
        }
        for (Path one : all) {
            Files.delete(one);
        }
    }
}
