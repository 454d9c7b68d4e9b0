import java.io.ByteArrayOutputStream;
import java.io.PrintStream;
import java.lang.reflect.Method;
import java.lang.reflect.Modifier;
import java.net.URL;
import java.net.URLClassLoader;
import java.nio.file.DirectoryStream;
import java.nio.file.Files;
import java.nio.file.Path;
import java.util.regex.Matcher;
import java.util.regex.Pattern;
import javax.tools.JavaCompiler;
import javax.tools.ToolProvider;

/** Holds README.md against the class: its examples print what it says, and it names every call and every test. */
public final class ReadmeTest {
    private static final Path PAGE = Path.of("README.md");
    private static final Pattern EXAMPLE =
        Pattern.compile("```java\\n(.*?)```\\s+It prints:\\s+```text\\n(.*?)```", Pattern.DOTALL);
    private static final Pattern CODE = Pattern.compile("```java\\n");
    private static final Pattern ANSWER = Pattern.compile("\\| `([A-Z]+)` (-\\d+) \\|");
    private static final String CALLS = "### The calls", ANSWERS = "### What they answer";

    public static void main(String[] args) throws Exception {
        String page = Files.readString(PAGE);
        examples(page);
        calls(page);
        answers(page);
        tests(page);
        Due.end();
    }

    private static void examples(String page) throws Exception {
        Path folder = Files.createTempDirectory("readme");
        int many = 0;
        Matcher example = EXAMPLE.matcher(page);
        while (example.find()) {
            many++;
            String name = "Example" + many;
            if (isCompiled(folder, name, example.group(1))) {
                Due.same(name + " of README.md prints", printed(folder, name), example.group(2));
            }
        }
        Due.due("examples with what they print", many, CODE.matcher(page).results().count());
        Due.holds("README.md has an example", many > 0);
        clear(folder);
    }

    private static boolean isCompiled(Path folder, String name, String body) throws Exception {
        Path file = folder.resolve(name + ".java");
        Files.writeString(file, "public final class " + name + " { public static void main(String[] args) {\n" + body + "}}\n");
        JavaCompiler compiler = ToolProvider.getSystemJavaCompiler();
        Due.holds("this java has its compiler with it", compiler != null);
        String classes = System.getProperty("java.class.path");
        int failed = compiler == null ? 1 : compiler.run(null, null, null, "-cp", classes, "-d", folder.toString(), file.toString());
        Due.due("compiling " + name + " of README.md", failed, 0);
        return failed == 0;
    }

    private static String printed(Path folder, String name) throws Exception {
        ByteArrayOutputStream text = new ByteArrayOutputStream();
        PrintStream usual = System.out;
        try (URLClassLoader loader = new URLClassLoader(new URL[] {folder.toUri().toURL()});
                PrintStream caught = new PrintStream(text, true)) {
            System.setOut(caught);
            loader.loadClass(name).getMethod("main", String[].class).invoke(null, (Object) new String[0]);
        } finally {
            System.setOut(usual);
        }
        return text.toString().replace(System.lineSeparator(), "\n");
    }

    private static void clear(Path folder) throws Exception {
        try (DirectoryStream<Path> files = Files.newDirectoryStream(folder)) {
            for (Path file : files) {
                Files.delete(file);
            }
        }
        Files.delete(folder);
    }

    private static void calls(String page) {
        String table = page.substring(page.indexOf(CALLS), page.indexOf(ANSWERS));
        for (Method m : RateTree.class.getDeclaredMethods()) {
            if (Modifier.isPublic(m.getModifiers())) {
                Due.holds("README.md names " + m.getName(), table.contains("`" + m.getName() + "`"));
            }
        }
    }

    private static void answers(String page) throws Exception {
        int many = 0;
        Matcher answer = ANSWER.matcher(page);
        while (answer.find()) {
            many++;
            int is = RateTree.class.getField(answer.group(1)).getInt(null);
            Due.due("README.md on " + answer.group(1), Integer.parseInt(answer.group(2)), is);
        }
        Due.due("answers that README.md names", many, 6);
    }

    private static void tests(String page) throws Exception {
        try (DirectoryStream<Path> files = Files.newDirectoryStream(Path.of("src/test/java"), "*Test.java")) {
            for (Path file : files) {
                String name = file.getFileName().toString().replace(".java", "");
                Due.holds("README.md names " + name, page.contains("| `" + name + "` |"));
            }
        }
        Matcher row = Pattern.compile("\\| `(\\w+Test)` \\|").matcher(page);
        while (row.find()) {
            Due.holds(row.group(1) + " is there", Files.exists(Path.of("src/test/java", row.group(1) + ".java")));
        }
    }
}
