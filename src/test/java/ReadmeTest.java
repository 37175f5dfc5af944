import java.lang.reflect.Method;
import java.lang.reflect.Modifier;
import java.net.URL;
import java.net.URLClassLoader;
import java.nio.file.Files;
import java.nio.file.Path;
import java.util.ArrayList;
import java.util.Comparator;
import java.util.List;
import java.util.regex.Matcher;
import java.util.regex.Pattern;
import java.util.stream.Stream;
import javax.tools.ToolProvider;

/** The examples in README.md are compiled and run as they stand there; each answers what its comment says. */
public final class ReadmeTest {
    private static final Pattern BLOCK = Pattern.compile("(?s)```java\n(.*?)```");
    private static final Pattern ANSWERED = Pattern.compile("(tug\\.\\w+\\(.*?\\)); // (-?\\d+)(:.*)?");
    private static final Check check = new Check();

    private ReadmeTest() {
    }

    public static void main(String[] args) throws Exception {
        String page = Files.readString(Path.of("README.md"));
        namesEveryCall(page);
        namesEveryTest(page);
        examples(page);
        check.close("ReadmeTest");
    }

    /** Called by the examples. */
    public static void due(String call, int got, int due) {
        check.is("README: " + call, got, due);
    }

    private static void namesEveryCall(String page) {
        for (Method m : TugRope.class.getDeclaredMethods()) {
            if (Modifier.isPublic(m.getModifiers())) {
                check.is("README names " + m.getName(), page.contains("`" + m.getName() + "`") ? 1 : 0, 1);
            }
        }
    }

    private static void namesEveryTest(String page) throws Exception {
        try (Stream<Path> files = Files.list(Path.of("src/test/java"))) {
            for (Path file : (Iterable<Path>) files::iterator) {
                String name = file.getFileName().toString().replace(".java", "");
                if (name.endsWith("Test")) {
                    check.is("README names " + name, page.contains("`" + name + "`") ? 1 : 0, 1);
                }
            }
        }
    }

    private static void examples(String page) throws Exception {
        Path work = Files.createTempDirectory("readme");
        try {
            String source = asClass(page);
            Path file = work.resolve("Readme.java");
            Files.writeString(file, source);
            int failed = ToolProvider.getSystemJavaCompiler().run(null, null, null,
                "-cp", System.getProperty("java.class.path"), "-d", work.toString(), file.toString());
            check.is("README's examples compile", failed, 0);
            if (failed == 0) {
                run(work);
            }
        } finally {
            delete(work);
        }
    }

    /** A block that begins with static is a helper; each other one is a run of calls of its own. */
    private static String asClass(String page) {
        StringBuilder helpers = new StringBuilder();
        StringBuilder runs = new StringBuilder();
        int answers = 0;
        Matcher blocks = BLOCK.matcher(page);
        while (blocks.find()) {
            String block = blocks.group(1);
            if (block.startsWith("static ")) {
                helpers.append(block);
                continue;
            }
            runs.append("{\n");
            for (String line : block.split("\n")) {
                Matcher m = ANSWERED.matcher(line);
                boolean answered = m.matches();
                answers += answered ? 1 : 0;
                check.is("README: " + line + " tells its answer", line.startsWith("tug.") == answered ? 1 : 0, 1);
                runs.append(answered ? checked(m) : line).append('\n');
            }
            runs.append("}\n");
        }
        check.is("README has examples", answers > 20 ? 1 : 0, 1);
        return "public class Readme {\n" + helpers + "public static void run() {\n" + runs + "}\n}\n";
    }

    private static String checked(Matcher m) {
        return "ReadmeTest.due(\"" + m.group(1) + "\", " + m.group(1) + ", " + m.group(2) + ");";
    }

    private static void run(Path work) throws Exception {
        URL[] where = {work.toUri().toURL()};
        try (URLClassLoader loader = new URLClassLoader(where, ReadmeTest.class.getClassLoader())) {
            loader.loadClass("Readme").getMethod("run").invoke(null);
        }
    }

    private static void delete(Path work) throws Exception {
        List<Path> all = new ArrayList<>();
        try (Stream<Path> found = Files.walk(work)) {
            found.sorted(Comparator.reverseOrder()).forEach(all::add);
        }
        for (Path one : all) {
            Files.delete(one);
        }
    }
}
