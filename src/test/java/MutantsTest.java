import java.io.IOException;
import java.lang.reflect.Method;
import java.net.MalformedURLException;
import java.net.URL;
import java.net.URLClassLoader;
import java.nio.file.Files;
import java.nio.file.Path;
import java.util.List;
import java.util.stream.IntStream;
import javax.tools.ToolProvider;

/** Each edge's test fails when its sentence is broken: the class is broken as the edge says, compiled, and asked. */
final class MutantsTest {
    private static final Checks CHECKS = new Checks();

    private final String source;
    private final Path room;

    private MutantsTest(String source, Path room) {
        this.source = source;
        this.room = room;
    }

    public static void main(String[] args) throws IOException {
        String root = System.getenv().getOrDefault("PROJECT_ROOT", ".");
        Path file = Path.of(root, "src", "main", "java", "PebbleCourses.java");
        Path room = Files.createTempDirectory("mutants");
        new MutantsTest(Files.readString(file), room).check();
        CHECKS.end();
    }

    private void check() {
        List<Edge> edges = Edges.all();
        String[] found = IntStream.range(0, edges.size()).parallel()
                .mapToObj(edge -> survivors(edge, edges.get(edge))).toArray(String[]::new);
        for (int edge = 0; edge < found.length; edge++) {
            CHECKS.at(edges.get(edge).name());
            CHECKS.dueText("", found[edge]);
            CHECKS.holds("some way to break it", !edges.get(edge).breaks.isEmpty());
        }
    }

    /** Tells of the ways to break an edge's sentence that its test does not see. */
    private String survivors(int edge, Edge broken) {
        StringBuilder text = new StringBuilder();
        for (int i = 0; i < broken.breaks.size(); i++) {
            String trouble = trouble(edge, broken.breaks.get(i), room.resolve(edge + "-" + i));
            if (!trouble.isEmpty()) {
                text.append(broken.breaks.get(i)).append(' ').append(trouble).append("; ");
            }
        }
        return text.toString();
    }

    private String trouble(int edge, Edge.Break broken, Path folder) {
        int method = source.indexOf(broken.method());
        int at = source.indexOf(broken.from(), method);
        boolean isOne = source.indexOf(broken.method(), method + 1) < 0;
        if (broken.method().isEmpty()) {
            isOne = source.indexOf(broken.from(), at + 1) < 0;
        } else {
            isOne &= at >= 0 && !source.substring(method, at).contains("\n\n");
        }
        if (method < 0 || at < 0 || !isOne) {
            return "is not at one place in the class";
        }
        String mutant = source.substring(0, at) + broken.to() + source.substring(at + broken.from().length());
        try {
            return isCompiled(mutant, folder) ? wrongAnswers(edge, folder) : "is not compiled";
        } catch (IOException | ReflectiveOperationException e) {
            return "ends with " + e;
        }
    }

    private static boolean isCompiled(String mutant, Path folder) throws IOException {
        Path file = Files.createDirectory(folder).resolve("PebbleCourses.java");
        Files.writeString(file, mutant);
        return ToolProvider.getSystemJavaCompiler().run(null, null, null, "-proc:none", file.toString()) == 0;
    }

    /** The mutant and the tests are loaded once more, apart from the class that stands. */
    private static String wrongAnswers(int edge, Path folder) throws IOException, ReflectiveOperationException {
        URL[] places = {folder.toUri().toURL(), own()};
        try (URLClassLoader loader = new URLClassLoader(places, ClassLoader.getPlatformClassLoader())) {
            Method ask = loader.loadClass("Edges").getDeclaredMethod("wrongAnswers", int.class);
            ask.setAccessible(true);
            return (int) ask.invoke(null, edge) > 0 ? "" : "is not seen";
        }
    }

    private static URL own() throws MalformedURLException {
        return MutantsTest.class.getProtectionDomain().getCodeSource().getLocation();
    }
}
