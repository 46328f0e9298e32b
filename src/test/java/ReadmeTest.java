import java.io.IOException;
import java.lang.reflect.Method;
import java.lang.reflect.Modifier;
import java.net.URL;
import java.net.URLClassLoader;
import java.nio.file.Files;
import java.nio.file.Path;
import java.util.ArrayList;
import java.util.List;
import java.util.regex.Matcher;
import java.util.regex.Pattern;
import java.util.stream.Stream;
import javax.tools.ToolProvider;

/**
 * README.md is true: what its lines say they answer they answer, each method is named in it, and each test.
 * Its blocks of Java are made into one program, in their order, and run.
 */
public final class ReadmeTest {
    private static final Pattern BLOCK = Pattern.compile("```java\n(.*?)```", Pattern.DOTALL);
    private static final Pattern ANSWERED = Pattern.compile("(herd\\..*\\)); +// (-?\\d+)(: .*)?");
    private static int wrong;

    private static void due(String what, boolean isSo) {
        if (!isSo) {
            wrong++;
            System.out.println("README.md: " + what);
        }
    }

    /** Called by the program that is made of the page. */
    public static void answer(String call, int got, int want) {
        due(call + " answered " + got + ", due is " + want, got == want);
    }

    private static String program(String page) {
        StringBuilder helpers = new StringBuilder();
        StringBuilder lines = new StringBuilder();
        int answers = 0;
        for (Matcher block = BLOCK.matcher(page); block.find();) {
            if (block.group(1).startsWith("static ")) {
                helpers.append(block.group(1));
                continue;
            }
            for (String line : block.group(1).split("\n")) {
                Matcher told = ANSWERED.matcher(line);
                if (told.matches()) {
                    answers++;
                    lines.append("ReadmeTest.answer(\"").append(told.group(1).replace("\"", "\\\"")).append("\", ")
                            .append(told.group(1)).append(", ").append(told.group(2)).append(");\n");
                } else {
                    due("what does this answer? " + line, !line.startsWith("herd."));
                    lines.append(line).append('\n');
                }
            }
        }
        due("it has " + answers + " answers alone", answers > 40);
        return "public class FromReadme {\n" + helpers + "public static void main(String[] args) {\n" + lines + "}\n}\n";
    }

    private static void run(String program) throws IOException, ReflectiveOperationException {
        Path room = Files.createTempDirectory("readme");
        Path source = room.resolve("FromReadme.java");
        Files.writeString(source, program);
        int failed = ToolProvider.getSystemJavaCompiler().run(null, null, null, "-cp",
                System.getProperty("java.class.path"), "-d", room.toString(), source.toString());
        due("its Java can't be compiled", failed == 0);
        if (failed == 0) {
            try (URLClassLoader loader = new URLClassLoader(new URL[] {room.toUri().toURL()})) {
                loader.loadClass("FromReadme").getMethod("main", String[].class).invoke(null, (Object) new String[0]);
            }
        }
        List<Path> made = new ArrayList<>();
        try (Stream<Path> files = Files.walk(room)) {
            files.forEach(file -> made.add(0, file));
        }
        for (Path file : made) {
            Files.delete(file);
        }
    }

    private static void names(String page, Path project) throws IOException {
        String table = page.substring(page.indexOf("### All methods"), page.indexOf("## How to run the tests"));
        for (Method m : BellHerd.class.getDeclaredMethods()) {
            if (Modifier.isPublic(m.getModifiers())) {
                due(m.getName() + " is not in the table of all methods", table.contains("`" + m.getName() + "(`"));
            }
        }
        String tests = page.substring(page.indexOf("## How to run the tests"));
        try (Stream<Path> files = Files.list(project.resolve("src/test/java"))) {
            files.map(file -> file.getFileName().toString().replace(".java", "")).forEach(name ->
                    due(name + " is not named", tests.contains("`" + name + "`")));
        }
        due("it does not say how to run the tests", tests.contains("\n    .ci/run\n"));
    }

    public static void main(String[] args) throws IOException, ReflectiveOperationException {
        Path project = Path.of(System.getProperty("project", "."));
        String page = Files.readString(project.resolve("README.md"));
        run(program(page));
        names(page, project);
        System.out.println(wrong == 0 ? "README.md is true" : "README.md is not true");
        if (wrong != 0) {
            System.exit(1);
        }
    }
}
