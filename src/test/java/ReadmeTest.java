import java.io.ByteArrayOutputStream;
import java.io.PrintStream;
import java.lang.reflect.Method;
import java.lang.reflect.Modifier;
import java.net.URL;
import java.net.URLClassLoader;
import java.nio.charset.StandardCharsets;
import java.nio.file.Files;
import java.nio.file.Path;
import java.util.regex.Matcher;
import java.util.regex.Pattern;
import javax.tools.ToolProvider;

/** The program in README.md compiles and prints what stands behind its calls; each call of the face is named there. */
public final class ReadmeTest {
    private static final Check c = new Check("ReadmeTest");

    public static void main(String[] args) throws Exception {
        String page = Files.readString(Path.of("README.md"), StandardCharsets.UTF_8);
        program(page);
        names(page);
        tests(page);
        c.end();
    }

    private static void program(String page) throws Exception {
        Matcher block = Pattern.compile("(?s)```java\n(.*?)```").matcher(page);
        c.due("a program in README.md", block.find(), true);
        String code = block.group(1);
        StringBuilder due = new StringBuilder();
        Matcher answer = Pattern.compile("println\\(.*\\); +// (-?\\d+)").matcher(code);
        while (answer.find()) {
            due.append(answer.group(1)).append('\n');
        }
        c.due("answers told behind each call", due.toString().split("\n").length, code.split("println").length - 1);
        c.due("what it prints", printed(code), due.toString());
    }

    private static String printed(String code) throws Exception {
        Path folder = Files.createTempDirectory("readme");
        Path file = folder.resolve("Mine.java");
        Files.writeString(file, code);
        int failed = ToolProvider.getSystemJavaCompiler().run(null, null, null, "-d", folder.toString(),
            file.toString(), "src/main/java/BathMinutes.java");
        c.due("it compiles", failed, 0);
        PrintStream screen = System.out;
        ByteArrayOutputStream kept = new ByteArrayOutputStream();
        ClassLoader none = ClassLoader.getPlatformClassLoader();
        try (URLClassLoader loader = new URLClassLoader(new URL[] {folder.toUri().toURL()}, none)) {
            System.setOut(new PrintStream(kept, true));
            loader.loadClass("Mine").getMethod("main", String[].class).invoke(null, (Object) new String[0]);
        } finally {
            System.setOut(screen);
            deleteAll(folder);
        }
        return kept.toString().replace("\r", "");
    }

    private static void deleteAll(Path folder) throws Exception {
        java.io.File[] files = folder.toFile().listFiles();
        for (java.io.File file : files) {
            Files.delete(file.toPath());
        }
        Files.delete(folder);
    }

    private static void names(String page) {
        for (Method m : BathMinutes.class.getDeclaredMethods()) {
            if (Modifier.isPublic(m.getModifiers())) {
                c.due(m.getName() + " is named", Pattern.compile("`" + m.getName() + "[`(]").matcher(page).find(), true);
            }
        }
    }

    private static void tests(String page) {
        for (String name : Path.of("src/test/java").toFile().list()) {
            if (name.endsWith("Test.java")) {
                String test = name.substring(0, name.length() - 5);
                c.due(test + " is named", page.contains("`" + test + "`"), true);
            }
        }
    }
}
