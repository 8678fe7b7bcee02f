import java.io.ByteArrayOutputStream;
import java.io.IOException;
import java.io.PrintStream;
import java.lang.reflect.Method;
import java.lang.reflect.Modifier;
import java.net.URL;
import java.net.URLClassLoader;
import java.nio.charset.StandardCharsets;
import java.nio.file.Files;
import java.nio.file.Path;
import java.util.List;
import java.util.regex.Matcher;
import java.util.regex.Pattern;
import java.util.stream.Stream;
import javax.tools.ToolProvider;

/** What README.md says: its program prints what stands there, its texts are right, it names every call and every test. */
public final class ReadmeTest {
    private static final Check CHECK = new Check();

    public static void main(String[] args) throws IOException, ReflectiveOperationException {
        String readme = Files.readString(Path.of("README.md"));
        CHECK.sentence("README.md says how to use the class");
        CHECK.due("the program", printed(block(readme, "java")), block(readme, "text"));
        linesOfATextAreRight(readme);
        everyCallIsNamed(readme);
        everyTestIsNamed(readme);
        CHECK.close("ReadmeTest");
    }

    private static String block(String readme, String kind) {
        int from = readme.indexOf("```" + kind + "\n");
        int to = from < 0 ? -1 : readme.indexOf("```\n", from + 4);
        return to < 0 ? "" : readme.substring(from + kind.length() + 4, to);
    }

    /** What the program prints, compiled and run as a reader would. */
    private static String printed(String program) throws IOException, ReflectiveOperationException {
        Path folder = Files.createTempDirectory("readme");
        Path source = Files.writeString(folder.resolve("Evening.java"), program);
        int faults = ToolProvider.getSystemJavaCompiler().run(null, null, null, "--release", "17", "-d", folder.toString(),
            "-cp", System.getProperty("java.class.path"), source.toString());
        CHECK.due("javac of the program", faults, 0);
        if (faults != 0) {
            wipe(folder);
            return "";
        }
        PrintStream before = System.out;
        ByteArrayOutputStream bytes = new ByteArrayOutputStream();
        try (URLClassLoader loader = new URLClassLoader(new URL[] {folder.toUri().toURL()})) {
            System.setOut(new PrintStream(bytes, true));
            loader.loadClass("Evening").getMethod("main", String[].class).invoke(null, (Object) new String[0]);
        } finally {
            System.setOut(before);
            wipe(folder);
        }
        return bytes.toString(StandardCharsets.UTF_8).replace("\r\n", "\n");
    }

    private static void wipe(Path folder) throws IOException {
        try (Stream<Path> inside = Files.list(folder)) {
            for (Path file : inside.toList()) {
                Files.delete(file);
            }
        }
        Files.delete(folder);
    }

    /** Each line of a text that stands in `..;` is one, and all of them stand together as well. */
    private static void linesOfATextAreRight(String readme) {
        Matcher found = Pattern.compile("`([a-z]+ [^`]*;)`").matcher(readme);
        StringBuilder all = new StringBuilder();
        int lines = 0;
        while (found.find()) {
            CHECK.due(found.group(1), Check.tell(new StuckGroove(), found.group(1)), 1);
            all.append(found.group(1)).append('\n');
            lines++;
        }
        CHECK.due("lines of each kind", lines, 9);
        CHECK.due("all together", Check.tell(new StuckGroove(), all.toString()), lines);
    }

    private static void everyCallIsNamed(String readme) {
        int from = readme.indexOf("## Calls");
        int to = readme.indexOf("## The files");
        String calls = from < 0 || to < from ? "" : readme.substring(from, to);
        for (Method method : StuckGroove.class.getDeclaredMethods()) {
            if (Modifier.isPublic(method.getModifiers())) {
                CHECK.due("names " + method.getName(), calls.contains("`" + method.getName() + "`"), true);
            }
        }
    }

    private static void everyTestIsNamed(String readme) throws IOException {
        try (Stream<Path> files = Files.list(Path.of("src/test/java"))) {
            List<String> names = files.map(file -> file.getFileName().toString()).filter(name -> name.endsWith("Test.java")).toList();
            for (String name : names) {
                CHECK.due("names " + name, readme.contains("`" + name.replace(".java", "") + "`"), true);
            }
        }
    }
}
