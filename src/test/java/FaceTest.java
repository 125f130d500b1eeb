import java.io.IOException;
import java.lang.reflect.Constructor;
import java.lang.reflect.Field;
import java.lang.reflect.Member;
import java.lang.reflect.Method;
import java.lang.reflect.Modifier;
import java.nio.file.Files;
import java.nio.file.Path;
import java.util.Set;
import java.util.TreeSet;

/** The public face is that of the document: constants, constructor, methods, throws clauses in their order. */
final class FaceTest {
    private static final Checks CHECKS = new Checks();

    public static void main(String[] args) throws IOException {
        CHECKS.at("face");
        Class<?> type = PebbleCourses.class;
        CHECKS.holds("public and final", type.getModifiers() == (Modifier.PUBLIC | Modifier.FINAL));
        CHECKS.holds("no parent", type.getSuperclass() == Object.class && type.getInterfaces().length == 0);
        CHECKS.dueText("face", due().toString(), found(type).toString());
        for (Class<?> inside : type.getDeclaredClasses()) {
            int modifiers = inside.getModifiers();
            CHECKS.holds(inside + " is static, and private or package-visible", Modifier.isStatic(modifiers)
                    && !Modifier.isPublic(modifiers) && !Modifier.isProtected(modifiers));
        }
        CHECKS.end();
    }

    private static Set<String> due() throws IOException {
        String root = System.getenv().getOrDefault("PROJECT_ROOT", ".");
        String document = Files.readString(Path.of(root, "..", "shared", "DOC.md"));
        String block = document.substring(document.indexOf("```java") + 7);
        Set<String> lines = new TreeSet<>();
        for (String line : block.substring(0, block.indexOf("```")).split("\n")) {
            boolean isMember = line.startsWith("    public ");
            if (isMember) {
                lines.add(line.strip().replaceAll("(int|boolean) \\w+(?=[,)])", "$1").replaceAll(" = .*;|;", ""));
            }
        }
        CHECKS.due("members in the document", 26, lines.size());
        return lines;
    }

    private static Set<String> found(Class<?> type) {
        Set<String> lines = new TreeSet<>();
        for (Field field : type.getDeclaredFields()) {
            add(lines, field, field.toGenericString());
        }
        for (Constructor<?> constructor : type.getDeclaredConstructors()) {
            add(lines, constructor, constructor.toGenericString());
        }
        for (Method method : type.getDeclaredMethods()) {
            add(lines, method, method.toGenericString());
        }
        return lines;
    }

    private static void add(Set<String> lines, Member member, String text) {
        if (!Modifier.isPrivate(member.getModifiers())) {
            lines.add(text.replace("PebbleCourses.", "").replace("java.lang.", "").replace(",", ", "));
        }
    }
}
