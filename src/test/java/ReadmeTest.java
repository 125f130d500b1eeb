import java.lang.reflect.Method;
import java.lang.reflect.Modifier;
import java.net.URL;
import java.net.URLClassLoader;
import java.nio.file.Files;
import java.nio.file.Path;
import java.util.ArrayList;
import java.util.List;
import java.util.regex.Matcher;
import java.util.regex.Pattern;
import javax.tools.ToolProvider;

/** The examples of README.md answer what stands behind them, and README.md names every call. */
final class ReadmeTest {
    private static final Pattern BLOCK = Pattern.compile("```java\n(.*?)```", Pattern.DOTALL);
    private static final Pattern EXAMPLE = Pattern.compile("(mosaic\\..*); +// ([^ :]+): .+");
    private static final Checks CHECKS = new Checks();

    public static void main(String[] args) throws Exception {
        CHECKS.at("README.md");
        String root = System.getenv().getOrDefault("PROJECT_ROOT", ".");
        String page = Files.readString(Path.of(root, "README.md"));
        for (Method method : PebbleCourses.class.getDeclaredMethods()) {
            if (Modifier.isPublic(method.getModifiers())) {
                CHECKS.holds("names " + method.getName(), page.contains("`" + method.getName() + "`"));
            }
        }
        askExamples(page);
        CHECKS.end();
    }

    private static void askExamples(String page) throws Exception {
        List<String> calls = new ArrayList<>();
        List<String> due = new ArrayList<>();
        String program = programOf(page, calls, due);
        CHECKS.holds("some examples", calls.size() > 20);
        Path folder = Files.createTempDirectory("readme");
        Path file = folder.resolve("Examples.java");
        Files.writeString(file, program);
        Path own = Path.of(ReadmeTest.class.getProtectionDomain().getCodeSource().getLocation().toURI());
        int failed = ToolProvider.getSystemJavaCompiler().run(null, null, null, "-proc:none", "-cp", own.toString(),
                file.toString());
        CHECKS.due("javac of the examples", 0, failed);
        if (failed == 0) {
            URL[] places = {folder.toUri().toURL()};
            try (URLClassLoader loader = new URLClassLoader(places, ReadmeTest.class.getClassLoader())) {
                Method ask = loader.loadClass("Examples").getMethod("answers");
                List<?> answers = (List<?>) ask.invoke(null);
                for (int i = 0; i < calls.size(); i++) {
                    CHECKS.dueText(calls.get(i), due.get(i), i < answers.size() ? (String) answers.get(i) : "nothing");
                }
            }
        }
    }

    /** All examples are one run of calls on one mosaic; lines without an answer behind them stand as they are. */
    private static String programOf(String page, List<String> calls, List<String> due) {
        StringBuilder body = new StringBuilder();
        Matcher blocks = BLOCK.matcher(page);
        while (blocks.find()) {
            for (String line : blocks.group(1).split("\n")) {
                Matcher example = EXAMPLE.matcher(line);
                if (example.matches()) {
                    calls.add(example.group(1));
                    due.add(example.group(2));
                    body.append("try { said.add(String.valueOf(").append(example.group(1)).append(")); }\n")
                            .append("catch (RuntimeException e) { said.add(e.getClass().getSimpleName()); }\n");
                } else {
                    CHECKS.holds("an answer behind: " + line, !line.contains("//"));
                    body.append(line).append('\n');
                }
            }
        }
        return "public final class Examples {\n"
                + "public static java.util.List<String> answers() {\n"
                + "java.util.List<String> said = new java.util.ArrayList<>();\n"
                + body + "return said;\n}\n}\n";
    }
}
