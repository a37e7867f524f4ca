import java.io.IOException;
import java.lang.reflect.Method;
import java.net.URL;
import java.net.URLClassLoader;
import java.nio.file.Files;
import java.nio.file.Path;
import java.util.ArrayList;
import java.util.List;
import java.util.Set;
import java.util.TreeSet;
import java.util.regex.Matcher;
import java.util.regex.Pattern;
import java.util.stream.Stream;
import javax.tools.JavaCompiler;
import javax.tools.ToolProvider;

/** What README.md says is so: its example answers as it tells, and its table has every test and no other. */
final class ReadmeTest {
    private static final Path README = Path.of("README.md");
    private static final Path TESTS = Path.of("src/test/java");
    private static final Pattern ANSWERED = Pattern.compile(
        "(?:boolean \\w+ = )?(x\\..*\\)); +// (-?\\d+|true|false)\\b.*");
    private static final Due DUE = new Due();

    public static void main(String[] args) throws Exception {
        String text = Files.readString(README);
        example(text);
        table(text);
        DUE.end();
    }

    private static void example(String text) throws Exception {
        List<String> lines = new ArrayList<>();
        List<String> wants = new ArrayList<>();
        for (String line : text.split("```java\n")[1].split("```")[0].split("\n")) {
            Matcher told = ANSWERED.matcher(line);
            if (told.matches()) {
                lines.add("answers.add(String.valueOf(" + told.group(1) + "));");
                wants.add(told.group(2));
            } else {
                lines.add(line);
            }
        }
        List<String> answers = new ArrayList<>();
        compiled(lines).invoke(null, answers);
        DUE.is("calls of README's example whose answer is told", wants.size(), lines.size() - 1);
        DUE.yes("README's example answers " + answers + ", it tells " + wants, answers.equals(wants));
    }

    private static Method compiled(List<String> lines) throws Exception {
        Path folder = Files.createTempDirectory("readme");
        Path source = folder.resolve("ReadmeExample.java");
        Files.writeString(source, "public class ReadmeExample {\n"
            + "public static void answer(java.util.List<String> answers) {\n" + String.join("\n", lines) + "\n}\n}\n");
        JavaCompiler compiler = ToolProvider.getSystemJavaCompiler();
        DUE.is("README's example compiles: javac", compiler.run(null, null, null, "-cp",
            System.getProperty("java.class.path"), "-d", folder.toString(), source.toString()), 0);
        try (URLClassLoader loader = new URLClassLoader(new URL[] {folder.toUri().toURL()})) {
            return loader.loadClass("ReadmeExample").getMethod("answer", List.class);
        } finally {
            delete(folder);
        }
    }

    private static void delete(Path folder) throws IOException {
        try (Stream<Path> files = Files.list(folder)) {
            for (Path file : files.toList()) {
                Files.delete(file);
            }
        }
        Files.delete(folder);
    }

    private static void table(String text) throws IOException {
        Set<String> told = new TreeSet<>();
        for (String line : text.split("\n")) {
            Matcher name = Pattern.compile("`(\\w+Test)`").matcher(line.startsWith("|") ? line.split("\\|")[1] : "");
            while (name.find()) {
                told.add(name.group(1));
            }
        }
        Set<String> present = new TreeSet<>();
        try (Stream<Path> files = Files.list(TESTS)) {
            files.map(file -> file.getFileName().toString()).filter(name -> name.endsWith("Test.java"))
                .forEach(name -> present.add(name.replace(".java", "")));
        }
        DUE.yes("the table of " + told + " is of " + present, told.equals(present));
    }
}
