import java.io.File;
import java.io.IOException;
import java.lang.reflect.Method;
import java.lang.reflect.Modifier;
import java.net.URL;
import java.net.URLClassLoader;
import java.nio.file.Files;
import java.nio.file.Path;
import java.util.ArrayList;
import java.util.List;
import java.util.regex.Matcher;
import java.util.regex.Pattern;
import java.util.stream.Stream;
import javax.tools.ToolProvider;

/** README.md: its examples run and answer as it says, and no call and no test is left out of it. */
public final class ReadmeTest {
    private static final Expect expect = new Expect();
    private static final Pattern BLOCK = Pattern.compile("```java\\n(.*?)```", Pattern.DOTALL);
    private static final Pattern CALL = Pattern.compile(
        "^(\\s*(?:int \\w+ = )?)(souls\\.\\w+\\(.*\\));(?:\\s*// (-?\\d+|NO)\\b.*)?$");

    private ReadmeTest() {
    }

    public static void main(String[] args) throws Exception {
        Path root = Path.of(args.length > 0 ? args[0] : ".");
        String readme = Files.readString(root.resolve("README.md"));
        calls(readme);
        tests(readme, root);
        examples(readme);
        expect.end();
    }

    private static void calls(String readme) {
        expect.part("calls");
        for (Method method : PunchedSouls.class.getDeclaredMethods()) {
            if (!Modifier.isPublic(method.getModifiers())) continue;
            int parameters = method.getParameterCount();
            String inside = parameters == 0 ? "" : "\\w+" + ", \\w+".repeat(parameters - 1);
            Pattern told = Pattern.compile("`" + method.getName() + "\\(" + inside + "\\)`");
            expect.holds(method.getName() + " is told", told.matcher(readme).find());
        }
    }

    private static void tests(String readme, Path root) throws IOException {
        expect.part("tests");
        expect.holds(".ci/run is told", readme.contains("`.ci/run`"));
        try (Stream<Path> files = Files.list(root.resolve("src/test/java"))) {
            for (Path file : (Iterable<Path>) files::iterator) {
                String name = file.getFileName().toString().replace(".java", "");
                boolean isTest = name.endsWith("Test");
                expect.holds(name + " is told", !isTest || readme.contains("`" + name + "`"));
            }
        }
    }

    private static void examples(String readme) throws Exception {
        List<String> examples = new ArrayList<>();
        Matcher blocks = BLOCK.matcher(readme);
        while (blocks.find()) {
            examples.add(asked(blocks.group(1)));
        }
        expect.part("examples");
        expect.holds("there are two", examples.size() == 2);
        for (String example : examples) {
            run(example);
        }
    }

    /** Each call with an answer in its comment hands both to due(); NO may be named as it stands there. */
    private static String asked(String block) {
        StringBuilder text = new StringBuilder();
        for (String line : block.split("\n")) {
            Matcher call = CALL.matcher(line);
            if (call.matches() && call.group(3) != null) {
                String due = call.group(3).equals("NO") ? "PunchedSouls.NO" : call.group(3);
                String words = call.group(2).replace("\"", "\\\"");
                line = call.group(1) + "ReadmeTest.due(\"" + words + "\", " + due + ", " + call.group(2) + ");";
            } else {
                boolean isFeed = line.trim().equals("souls.feed(sign);");
                expect.holds("an answer is told: " + line, !call.matches() || isFeed);
            }
            text.append(line).append('\n');
        }
        return text.toString();
    }

    /** Public, as the examples' class comes from another loader. */
    public static int due(String call, long due, long got) {
        expect.is(call, due, got);
        return (int) got;
    }

    private static void run(String example) throws Exception {
        Path directory = Files.createTempDirectory("readme");
        Path source = directory.resolve("ReadmeExample.java");
        try {
            Files.writeString(source,
                "public class ReadmeExample { public static void main(String[] args) {\n" + example + "}}\n");
            int status = ToolProvider.getSystemJavaCompiler().run(null, null, null, "-proc:none", "-cp",
                System.getProperty("java.class.path"), "-d", directory.toString(), source.toString());
            expect.is("javac", 0, status);
            if (status == 0) {
                try (URLClassLoader loader = new URLClassLoader(new URL[] {directory.toUri().toURL()})) {
                    Method main = loader.loadClass("ReadmeExample").getMethod("main", String[].class);
                    main.invoke(null, (Object) new String[0]);
                }
            }
        } finally {
            for (File file : directory.toFile().listFiles()) {
                file.delete();
            }
            directory.toFile().delete();
        }
    }
}
