import java.nio.file.Files;
import java.nio.file.Path;
import java.util.ArrayList;
import java.util.List;
import java.util.Set;
import java.util.regex.Matcher;
import java.util.regex.Pattern;

/** Looks for what LANGUAGE.md rules out, as far as the words of the source and its classes show it. */
public final class LanguageTest {
    private static final Path SOURCE = Path.of("src/main/java/BikeSheds.java");
    private static final Pattern RULED_OUT = Pattern.compile(
        "\\b(throw|throws|try|catch|finally|synchronized|assert|volatile|transient|native|package|import|var|protected|super)\\b"
            + "|->|::|\\w+Exact\\b|\\b(System\\.(?!arraycopy)|Thread|Random|Object|Class)\\b");
    private static final Pattern METHOD = Pattern.compile("^ {4,8}(?:(?:public|private|static) )*\\w[\\w\\[\\]]* (\\w+)\\(([^()]*)\\) \\{$");
    private static final Set<String> FACE = Set.of("set", "ask", "giveUp", "prolong", "park", "ride", "answer", "fetch", "sweep",
        "use", "pass", "run", "person", "shed", "waiting", "count", "untilPermit", "bestShed", "ifSwept", "put", "wipe", "fault",
        "undo", "save", "restore");
    private static final int LONGEST_METHOD = 60;
    private static final int MOST_PARAMETERS = 7;
    private static final int MOST_CLASSES = 12;
    private static final int MOST_FIELDS = 20;

    private final List<String> faults = new ArrayList<>();

    public static void main(String[] arguments) throws Exception {
        LanguageTest test = new LanguageTest();
        test.look(Files.readString(SOURCE));
        test.faults.forEach(System.out::println);
        System.out.println("LanguageTest: " + test.faults.size() + " faults");
        if (!test.faults.isEmpty()) {
            System.exit(1);
        }
    }

    private void look(String source) {
        String[] lines = withoutComments(source).split("\n");
        int start = 0;
        int indent = 0;
        for (int i = 0; i < lines.length; i++) {
            Matcher ruledOut = RULED_OUT.matcher(lines[i]);
            if (ruledOut.find()) {
                fault(i, "ruled out: " + ruledOut.group());
            }
            Matcher method = METHOD.matcher(lines[i]);
            if (method.find()) {
                start = i;
                indent = lines[i].length() - lines[i].stripLeading().length();
                lookAtHead(i, lines[i], method);
            }
            if (lines[i].equals(" ".repeat(indent) + "}") && i - start >= LONGEST_METHOD) {
                fault(start, "more than " + LONGEST_METHOD + " lines");
            }
        }
        Class<?>[] classes = BikeSheds.class.getDeclaredClasses();
        if (classes.length > MOST_CLASSES) {
            faults.add("more than " + MOST_CLASSES + " classes");
        }
        for (Class<?> each : classes) {
            if (each.getDeclaredFields().length > MOST_FIELDS) {
                faults.add(each + " has more than " + MOST_FIELDS + " fields");
            }
        }
    }

    private void lookAtHead(int line, String text, Matcher method) {
        if (!text.contains("public ") && FACE.contains(method.group(1))) {
            fault(line, "bears the name of a public method");
        }
        if (method.group(2).split(",").length > MOST_PARAMETERS) {
            fault(line, "more than " + MOST_PARAMETERS + " parameters");
        }
    }

    private void fault(int line, String text) {
        faults.add(SOURCE + ":" + (line + 1) + ": " + text);
    }

    /** Blanks comments, and keeps the lines. */
    private static String withoutComments(String source) {
        Matcher comment = Pattern.compile("//[^\n]*|/\\*.*?\\*/", Pattern.DOTALL).matcher(source);
        return comment.replaceAll(match -> match.group().replaceAll("[^\n]", ""));
    }
}
