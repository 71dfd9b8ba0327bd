import java.io.IOException;
import java.lang.reflect.InvocationTargetException;
import java.lang.reflect.Modifier;
import java.net.URL;
import java.net.URLClassLoader;
import java.nio.file.Files;
import java.nio.file.Path;
import java.util.ArrayList;
import java.util.Arrays;
import java.util.List;
import java.util.regex.Matcher;
import java.util.regex.Pattern;
import java.util.stream.Collectors;
import java.util.stream.Stream;
import javax.tools.ToolProvider;

/**
 * README.md: the example compiles and answers as it says there, and every call, class and test is named. Arguments:
 * README.md, the folder of the tests.
 */
public final class ReadmeTest {
    private static final Pattern ANSWERED = Pattern.compile("((?:int|long) \\w+ = )?(x\\..*);\\s*// (-?\\d+): .*");
    private static final int FEWEST_ANSWERS = 25;

    private static int wrong = 0;

    private ReadmeTest() {
    }

    public static void main(String[] args) throws Exception {
        if (args.length != 2) {
            System.out.println("usage: ReadmeTest README.md FOLDER-OF-TESTS");
            System.exit(2);
        }
        String page = Files.readString(Path.of(args[0]));
        int answers = followExample(blocks(page, "java"));
        if (answers < FEWEST_ANSWERS) {
            tell("the example tells " + answers + " answers");
        }
        findCalls(page);
        findInnerClasses(page);
        findTests(page, Path.of(args[1]));
        System.out.println("the readme: " + answers + " answers followed, " + wrong + " faults");
        if (wrong != 0) {
            System.exit(1);
        }
    }

    /** The example calls this with what it tells. */
    public static void due(String call, long got, long want) {
        if (got != want) {
            tell(call + " answered " + got + ", the readme says " + want);
        }
    }

    private static void tell(String fault) {
        wrong++;
        System.out.println("readme: " + fault);
    }

    private static List<String> blocks(String page, String language) {
        List<String> lines = new ArrayList<>();
        boolean inside = false;
        for (String line : page.split("\n")) {
            boolean fence = line.startsWith("```");
            if (inside && !fence) {
                lines.add(line);
            }
            inside = fence ? line.equals("```" + language) : inside;
        }
        return lines;
    }

    // ---- the example

    /** How many answers it tells. Each line stays as it is, but that a call that tells an answer is looked at. */
    private static int followExample(List<String> lines) throws IOException, ReflectiveOperationException {
        int answers = 0;
        StringBuilder source = new StringBuilder("public class Example {\npublic static void main(String[] args) {\n");
        for (String line : lines) {
            Matcher told = ANSWERED.matcher(line);
            if (!told.matches()) {
                if (line.matches("((int|long) \\w+ = )?x\\..*")) {
                    tell("no answer is told of " + line);
                }
                source.append(line).append('\n');
                continue;
            }
            answers++;
            String call = told.group(2);
            String got = call;
            if (told.group(1) != null) {
                source.append(told.group(1)).append(call).append(";\n");
                got = told.group(1).split(" ")[1];
            }
            source.append("ReadmeTest.due(\"").append(call).append("\", ").append(got).append(", ");
            source.append(told.group(3)).append("L);\n");
        }
        run(source.append("}\n}\n").toString());
        return answers;
    }

    private static void run(String source) throws IOException, ReflectiveOperationException {
        Path folder = Files.createTempDirectory("readme");
        Path file = folder.resolve("Example.java");
        Files.writeString(file, source);
        String classes = System.getProperty("java.class.path");
        int code = ToolProvider.getSystemJavaCompiler().run(null, null, null, "-cp", classes, "-d", folder.toString(),
            file.toString());
        if (code != 0) {
            tell("the example does not compile");
        } else {
            call(folder);
        }
        for (String name : List.of("Example.class", "Example.java", "")) {
            Files.deleteIfExists(folder.resolve(name));
        }
    }

    private static void call(Path folder) throws IOException, ReflectiveOperationException {
        URL[] from = {folder.toUri().toURL()};
        try (URLClassLoader loader = new URLClassLoader(from, ReadmeTest.class.getClassLoader())) {
            loader.loadClass("Example").getMethod("main", String[].class).invoke(null, (Object) new String[0]);
        } catch (InvocationTargetException thrown) {
            tell("the example threw " + thrown.getCause());
        }
    }

    // ---- what is named

    private static void findCalls(String page) {
        Arrays.stream(WhichWayRound.class.getDeclaredMethods())
            .filter(method -> Modifier.isPublic(method.getModifiers()))
            .forEach(method -> find(page, method.getName()));
    }

    private static void findInnerClasses(String page) {
        for (Class<?> inner : WhichWayRound.class.getDeclaredClasses()) {
            find(page, inner.getSimpleName());
        }
    }

    private static void findTests(String page, Path folder) throws IOException {
        String commands = String.join("\n", blocks(page, "sh"));
        try (Stream<Path> files = Files.list(folder)) {
            for (Path file : files.collect(Collectors.toList())) {
                String name = file.getFileName().toString().replace(".java", "");
                find(page, name);
                boolean runs = Files.readString(file).contains("public static void main(");
                if (runs && !commands.contains("java -cp \"$out\" " + name)) {
                    tell("no command runs " + name);
                }
            }
        }
    }

    private static void find(String page, String name) {
        if (!page.contains("`" + name + "`")) {
            tell("`" + name + "` is not named");
        }
    }
}
