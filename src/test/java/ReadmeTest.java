import java.io.ByteArrayOutputStream;
import java.io.PrintStream;
import java.net.URL;
import java.net.URLClassLoader;
import java.nio.file.Files;
import java.nio.file.Path;
import java.util.regex.Matcher;
import java.util.regex.Pattern;
import javax.tools.ToolProvider;

/** The program of README.md compiles with the class and prints what stands below it. It is run from the project's folder. */
final class ReadmeTest {
    public static void main(String[] args) throws Exception {
        String readme = Files.readString(Path.of("README.md"));
        Matcher shown = Pattern.compile("```java\n(.*?)```\\s*```text\n(.*?)```", Pattern.DOTALL).matcher(readme);
        Check.same("there is a program and what it prints", shown.find(), true);
        Check.same("it prints", printed(shown.group(1)), shown.group(2));
        namesWhatThereIs(readme);
        Check.close();
    }

    private static String printed(String program) throws Exception {
        Path folder = Files.createTempDirectory("readme");
        Path file = folder.resolve("Example.java");
        Files.writeString(file, program);
        int wrong = ToolProvider.getSystemJavaCompiler().run(null, null, null, "-Xlint:all", "-Werror", "-d", folder.toString(),
                file.toString(), "src/main/java/GhostAssize.java");
        Check.same("it compiles", wrong, 0);
        ByteArrayOutputStream out = new ByteArrayOutputStream();
        PrintStream before = System.out;
        try (URLClassLoader loader = new URLClassLoader(new URL[] {folder.toUri().toURL()},
                ClassLoader.getPlatformClassLoader())) {
            System.setOut(new PrintStream(out, true));
            loader.loadClass("Example").getMethod("main", String[].class).invoke(null, (Object) new String[0]);
        } finally {
            System.setOut(before);
            remove(folder);
        }
        return out.toString().replace(System.lineSeparator(), "\n");
    }

    private static void remove(Path folder) throws Exception {
        for (java.io.File file : folder.toFile().listFiles()) {
            Files.delete(file.toPath());
        }
        Files.delete(folder);
    }

    /** A test, a class or a call that README.md names is there. */
    private static void namesWhatThereIs(String readme) throws Exception {
        String code = Files.readString(Path.of("src/main/java/GhostAssize.java"));
        Matcher test = Pattern.compile("`(\\w+Test)\\b").matcher(readme);
        while (test.find()) {
            Check.same("there is " + test.group(1), Files.exists(Path.of("src/test/java/" + test.group(1) + ".java")), true);
        }
        Matcher call = Pattern.compile("`([a-z]+)\\(").matcher(readme);
        while (call.find()) {
            Check.same("there is " + call.group(1), code.contains(" " + call.group(1) + "("), true);
        }
        try (var files = Files.newDirectoryStream(Path.of("src/test/java"), "*Test.java")) {
            for (Path file : files) {
                String name = file.getFileName().toString().replace(".java", "");
                Check.same("README.md names " + name, readme.contains("`" + name + "`"), true);
            }
        }
    }
}
