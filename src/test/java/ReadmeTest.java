import java.io.ByteArrayOutputStream;
import java.io.IOException;
import java.io.PrintStream;
import java.lang.reflect.Method;
import java.net.URL;
import java.net.URLClassLoader;
import java.nio.charset.StandardCharsets;
import java.nio.file.Files;
import java.nio.file.Path;
import java.util.Comparator;
import java.util.List;
import java.util.regex.Matcher;
import java.util.regex.Pattern;
import java.util.stream.Stream;
import javax.tools.ToolProvider;

/** The README: its program compiles and prints what it says, its texts are right, it names every call. */
public final class ReadmeTest {
    private static final Path README = Path.of("README.md");
    private static final Path SOURCE = Path.of("src/main/java/CyclicLines.java");

    private final Check check = new Check();

    public static void main(String[] args) throws Exception {
        ReadmeTest t = new ReadmeTest();
        String readme = Files.readString(README);
        t.program(block(readme, "java", 0), block(readme, "text", 0));
        t.texts(block(readme, "text", 1).split("\n"));
        t.calls(readme);
        t.tests(readme);
        t.check.end("ReadmeTest");
    }

    /** What stands in the n-th block of a kind. */
    private static String block(String readme, String kind, int n) {
        Matcher m = Pattern.compile("```" + kind + "\n(.*?)```", Pattern.DOTALL).matcher(readme);
        for (int i = 0; m.find(); i++) {
            if (i == n) {
                return m.group(1);
            }
        }
        return "";
    }

    private void program(String source, String printed) throws Exception {
        Path folder = Files.createTempDirectory("readme");
        try {
            Path file = folder.resolve("Example.java");
            Files.writeString(file, source);
            int failed = ToolProvider.getSystemJavaCompiler().run(null, null, null,
                    "-d", folder.toString(), SOURCE.toString(), file.toString());
            check.same("the program compiles", 0, failed);
            check.same("the program prints", printed, failed == 0 ? printedBy(folder) : "");
        } finally {
            delete(folder);
        }
    }

    private static String printedBy(Path folder) throws Exception {
        ByteArrayOutputStream bytes = new ByteArrayOutputStream();
        PrintStream before = System.out;
        URL[] from = {folder.toUri().toURL()};
        // No parent: the class that was compiled with it is to be used.
        try (URLClassLoader loader = new URLClassLoader(from, null);
                PrintStream out = new PrintStream(bytes, true, StandardCharsets.UTF_8)) {
            Method main = loader.loadClass("Example").getMethod("main", String[].class);
            System.setOut(out);
            main.invoke(null, (Object) new String[0]);
        } finally {
            System.setOut(before);
        }
        return bytes.toString(StandardCharsets.UTF_8).replace("\r\n", "\n");
    }

    private static void delete(Path folder) throws IOException {
        List<Path> all;
        try (Stream<Path> walk = Files.walk(folder)) {
            all = walk.sorted(Comparator.reverseOrder()).toList();
        }
        for (Path one : all) {
            Files.delete(one);
        }
    }

    private void texts(String[] told) {
        check.same("two texts are shown", 2, told.length);
        CyclicLines x = new CyclicLines();
        check.due("the text of lines is right", 1, () -> Check.lines(x, told[0]));
        check.due("its units", 3, () -> x.count(6));
        check.due("its tick", 7, () -> x.count(3));
        check.due("the law is right", 3, () -> Check.law(x, told[told.length - 1]));
    }

    private void calls(String readme) {
        for (Method method : CyclicLines.class.getMethods()) {
            if (method.getDeclaringClass() == CyclicLines.class) {
                check.same("named: " + method.getName(), true, readme.contains("`" + method.getName() + "`"));
            }
        }
    }

    private void tests(String readme) throws IOException {
        try (Stream<Path> files = Files.list(Path.of("src/test/java"))) {
            for (Path file : files.toList()) {
                check.same("named: " + file, true, readme.contains(file.getFileName().toString()));
            }
        }
    }
}
