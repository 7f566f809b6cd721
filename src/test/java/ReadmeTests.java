import java.io.ByteArrayOutputStream;
import java.io.IOException;
import java.io.PrintStream;
import java.net.URL;
import java.net.URLClassLoader;
import java.nio.charset.StandardCharsets;
import java.nio.file.Files;
import java.nio.file.Path;
import java.util.ArrayList;
import java.util.List;
import javax.tools.JavaCompiler;
import javax.tools.ToolProvider;

/** The example in README.md is compiled and run as it stands there: it prints what its lines tell behind "// ". */
public final class ReadmeTests {
    private static final String PRINTS = "System.out.println(";
    private static final String BEHIND = "); // ";

    /** The lines between the fence of a language and the next fence. */
    private static List<String> block(List<String> readme, String language) {
        List<String> block = new ArrayList<>();
        int start = readme.indexOf("```" + language);
        for (int line = start + 1; start >= 0 && line < readme.size() && !readme.get(line).equals("```"); line++) {
            block.add(readme.get(line));
        }
        return block;
    }

    private static List<String> answersTold(List<String> example) {
        List<String> told = new ArrayList<>();
        for (String line : example) {
            int answer = line.lastIndexOf(BEHIND);
            if (line.contains(PRINTS) && answer >= 0) {
                told.add(line.substring(answer + BEHIND.length()));
            }
        }
        return told;
    }

    private static String printed(List<String> example) throws IOException, ReflectiveOperationException {
        Path build = Files.createTempDirectory("readme");
        Path source = build.resolve("Example.java");
        Files.write(source, example);
        JavaCompiler compiler = ToolProvider.getSystemJavaCompiler();
        boolean isCompiled = compiler != null && compiler.run(null, null, null, "-d", build.toString(), "-classpath",
                System.getProperty("java.class.path"), source.toString()) == 0;
        if (!isCompiled) {
            return "the example can't be compiled";
        }
        PrintStream out = System.out;
        ByteArrayOutputStream printed = new ByteArrayOutputStream();
        try (URLClassLoader loader = new URLClassLoader(new URL[] {build.toUri().toURL()})) {
            System.setOut(new PrintStream(printed, true, StandardCharsets.UTF_8));
            loader.loadClass("Example").getMethod("main", String[].class).invoke(null, (Object) new String[0]);
        } finally {
            System.setOut(out);
            Files.deleteIfExists(build.resolve("Example.class"));
            Files.deleteIfExists(source);
            Files.deleteIfExists(build);
        }
        return printed.toString(StandardCharsets.UTF_8);
    }

    public static void main(String[] args) throws IOException, ReflectiveOperationException {
        List<String> example = block(Files.readAllLines(Path.of("README.md")), "java");
        List<String> told = answersTold(example);
        List<String> printed = printed(example).lines().toList();
        if (told.isEmpty() || !printed.equals(told)) {
            System.out.println("README.md tells " + told + ", the class answers " + printed);
            System.exit(1);
        }
        System.out.println("the README's example prints its " + told.size() + " answers");
    }
}
