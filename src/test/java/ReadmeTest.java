import java.io.IOException;
import java.lang.reflect.Method;
import java.lang.reflect.Modifier;
import java.net.URL;
import java.net.URLClassLoader;
import java.nio.file.Files;
import java.nio.file.Path;
import java.util.ArrayList;
import java.util.List;
import java.util.Set;
import java.util.TreeSet;
import java.util.regex.Matcher;
import java.util.regex.Pattern;
import javax.tools.ToolProvider;

/** The calls that README.md shows are compiled as they stand there, made in their row, and answer what it says. */
public final class ReadmeTest {
    private static final String NAME = "ReadmeCalls";
    private static final Pattern CALL = Pattern.compile("((?:x\\.(\\w+)|put)\\(.*\\)); +// (true|false|-?\\d+)(: .+)?");
    private static final Pattern MADE = Pattern.compile("DeadLines x = new DeadLines\\(\\);");
    private static final Pattern PATH = Pattern.compile("`((?:[\\w.]+/)+[\\w.]+|\\w+\\.md)`");

    private final StringBuilder methods = new StringBuilder();
    private final StringBuilder steps = new StringBuilder();
    private final List<String> shown = new ArrayList<>();
    private final List<String> wanted = new ArrayList<>();
    private final Set<String> names = new TreeSet<>();

    private ReadmeTest() {
    }

    public static void main(String[] args) throws IOException, ReflectiveOperationException {
        ReadmeTest t = new ReadmeTest();
        t.read(Files.readAllLines(Path.of("README.md")));
        t.compare(t.answers());
        t.showsWholeFace();
        Due.end();
    }

    private static void wrong(String what) {
        Due.is(what, true, false);
    }

    /** Blocks of java are calls with answers, or a method that is used by them. */
    private void read(List<String> rows) {
        List<String> block = new ArrayList<>();
        String kind = "";
        for (int i = 0; i < rows.size(); i++) {
            String row = rows.get(i);
            if (!row.startsWith("```")) {
                block.add(row);
                if (kind.isEmpty()) {
                    prose(i + 1, row);
                }
                continue;
            }
            if (kind.equals("```java")) {
                java(i + 1 - block.size(), block);
            }
            kind = kind.isEmpty() ? row : "";
            block.clear();
        }
        Due.is("README.md: a block is left open", !kind.isEmpty(), false);
    }

    /** What is shown outside of the blocks would not be tested; and the files it names are there. */
    private static void prose(int number, String row) {
        Due.is("README.md, row " + number + ": a call outside of a block", row.matches(".*\\bx\\.\\w+\\(.*"), false);
        Matcher m = PATH.matcher(row);
        while (m.find()) {
            Due.is("README.md, row " + number + ": is there " + m.group(1), Files.exists(Path.of(m.group(1))), true);
        }
    }

    private void java(int first, List<String> block) {
        if (!block.isEmpty() && block.get(0).startsWith("static ")) {
            block.forEach(row -> methods.append(row).append('\n'));
            return;
        }
        for (int i = 0; i < block.size(); i++) {
            String at = "README.md, row " + (first + i) + ": " + block.get(i);
            Matcher m = CALL.matcher(block.get(i));
            if (m.matches()) {
                steps.append("answers.add(").append(m.group(1)).append(");\n");
                shown.add(at);
                wanted.add(m.group(3));
                names.add(String.valueOf(m.group(2)));
            } else if (MADE.matcher(block.get(i)).matches()) {
                steps.append(block.get(i)).append('\n');
            } else {
                wrong(at + " is no call with an answer");
            }
        }
    }

    private List<Object> answers() throws IOException, ReflectiveOperationException {
        List<Object> answers = new ArrayList<>();
        Path dir = Files.createTempDirectory("readme");
        Path source = dir.resolve(NAME + ".java");
        Path compiled = dir.resolve(NAME + ".class");
        Files.writeString(source, "public final class " + NAME + " {\n" + methods
            + "public static void make(java.util.List<Object> answers) {\n" + steps + "}\n}\n");
        String classes = System.getProperty("java.class.path");
        int rc = ToolProvider.getSystemJavaCompiler()
            .run(null, null, null, "-d", dir.toString(), "-cp", classes, source.toString());
        Due.is("javac of the calls in README.md", rc, 0);
        if (rc == 0) {
            try (URLClassLoader loader = new URLClassLoader(new URL[] {dir.toUri().toURL()})) {
                loader.loadClass(NAME).getMethod("make", List.class).invoke(null, answers);
            }
        }
        Files.deleteIfExists(compiled);
        Files.delete(source);
        Files.delete(dir);
        return answers;
    }

    private void compare(List<Object> answers) {
        Due.is("answers to the calls in README.md", answers.size(), shown.size());
        for (int i = 0; i < answers.size() && i < shown.size(); i++) {
            if (String.valueOf(answers.get(i)).equals(wanted.get(i))) {
                Due.is(shown.get(i), true, true);
            } else {
                wrong(shown.get(i) + " answers " + answers.get(i));
            }
        }
        Due.is("README.md keeps to the 512 calls of an object", shown.size() <= 512, true);
    }

    private void showsWholeFace() {
        for (Method m : DeadLines.class.getDeclaredMethods()) {
            if (Modifier.isPublic(m.getModifiers())) {
                Due.is("README.md shows " + m.getName(), names.contains(m.getName()), true);
            }
        }
    }
}
