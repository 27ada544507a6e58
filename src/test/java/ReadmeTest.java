import java.lang.reflect.InvocationTargetException;
import java.net.URL;
import java.net.URLClassLoader;
import java.nio.file.Files;
import java.nio.file.Path;
import java.util.List;
import java.util.regex.Matcher;
import java.util.regex.Pattern;
import java.util.spi.ToolProvider;

/**
 * Compiles the examples of README.md, and compares the answer of each call with the number in its comment.
 *
 * <p>Each block of Java becomes a method of its own, and each of its calls a call of due().
 */
public final class ReadmeTest {
    private static final Path README = Path.of("README.md");
    private static final Pattern CALL = Pattern.compile("^( *)(sheds\\.\\w+\\(.*\\)); *// (-?\\d+)(:.*)?$");
    private static final int LEAST_BLOCKS = 4;

    private static int right;
    private static int wrong;

    public static void main(String[] arguments) throws Exception {
        Path folder = Files.createTempDirectory("readme");
        try {
            String source = source(Files.readAllLines(README));
            compile(folder, source);
            play(folder);
        } finally {
            for (String name : List.of("Examples.java", "Examples.class")) {
                Files.deleteIfExists(folder.resolve(name));
            }
            Files.delete(folder);
        }
        System.out.println("ReadmeTest: " + right + " answers are as due, " + wrong + " are not");
        if (wrong != 0 || right == 0) {
            System.exit(1);
        }
    }

    /** What the examples call with each answer. */
    public static void due(int line, int got, int due) {
        if (got == due) {
            right++;
        } else {
            wrong++;
            System.out.println(README + ":" + line + ": answered " + got + ", due is " + due);
        }
    }

    private static String source(List<String> lines) {
        StringBuilder source = new StringBuilder("public final class Examples {\n");
        int blocks = 0;
        boolean isJava = false;
        for (int i = 0; i < lines.size(); i++) {
            String line = lines.get(i);
            if (line.equals("```java")) {
                source.append("public static void block").append(blocks).append("() {\n");
                isJava = true;
                blocks++;
            } else if (isJava && line.equals("```")) {
                source.append("}\n");
                isJava = false;
            } else if (isJava) {
                source.append(statement(line, i + 1)).append('\n');
            }
        }
        if (blocks < LEAST_BLOCKS) {
            throw new IllegalStateException(README + " has too few examples");
        }
        source.append("public static void main(String[] arguments) {\n");
        for (int i = 0; i < blocks; i++) {
            source.append("block").append(i).append("();\n");
        }
        return source.append("}\n}\n").toString();
    }

    private static String statement(String line, int number) {
        Matcher call = CALL.matcher(line);
        if (call.matches()) {
            return "ReadmeTest.due(" + number + ", " + call.group(2) + ", " + call.group(3) + ");";
        }
        if (line.contains("sheds.")) {
            throw new IllegalStateException(README + ":" + number + ": a call without its answer");
        }
        return line;
    }

    private static void compile(Path folder, String source) throws Exception {
        Path file = folder.resolve("Examples.java");
        Files.writeString(file, source);
        ToolProvider javac = ToolProvider.findFirst("javac").orElseThrow();
        String classes = System.getProperty("java.class.path");
        int code = javac.run(System.out, System.out, "-cp", classes, "-d", folder.toString(), file.toString());
        if (code != 0) {
            throw new IllegalStateException("the examples of " + README + " do not compile");
        }
    }

    private static void play(Path folder) throws Exception {
        try (URLClassLoader loader = new URLClassLoader(new URL[] {folder.toUri().toURL()})) {
            loader.loadClass("Examples").getMethod("main", String[].class).invoke(null, (Object) new String[0]);
        } catch (InvocationTargetException failure) {
            throw new IllegalStateException("an example of " + README + " throws", failure.getCause());
        }
    }
}
