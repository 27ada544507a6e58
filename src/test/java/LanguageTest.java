import java.lang.reflect.Field;
import java.lang.reflect.Modifier;
import java.nio.file.Files;
import java.nio.file.Path;
import java.util.ArrayList;
import java.util.Arrays;
import java.util.HashMap;
import java.util.List;
import java.util.Map;
import java.util.Set;
import java.util.TreeSet;
import java.util.regex.Matcher;
import java.util.regex.Pattern;

/** Looks for what LANGUAGE.md rules out, as far as the words of the source and its classes show it. */
public final class LanguageTest {
    private static final Path SOURCE = Path.of("src/main/java/BikeSheds.java");
    private static final Pattern RULED_OUT = Pattern.compile(
        "\\b(throw|throws|try|catch|finally|synchronized|assert|volatile|transient|native|package|import|var|protected|super)\\b"
            + "|->|::|\\w+Exact\\b|\\b(System\\.(?!arraycopy)|Thread|Random|Object|Class)\\b");
    private static final Pattern METHOD = Pattern.compile("^ {4,8}(?:(?:public|private|static) )*\\w[\\w\\[\\]]* (\\w+)\\(([^()]*)\\) \\{$");
    private static final Pattern CALL = Pattern.compile("\\b([a-z]\\w*)\\(");
    private static final Pattern TYPE = Pattern.compile("\\b[A-Z]\\w*[a-z]\\w*\\b");
    private static final Set<String> LIBRARY = Set.of("String", "StringBuilder", "Integer", "Long", "Math", "System", "Arrays",
        "ArrayList", "List", "Iterator", "Iterable", "Comparable");
    private static final Set<String> FACE = Set.of("set", "ask", "giveUp", "prolong", "park", "ride", "answer", "fetch", "sweep",
        "use", "pass", "run", "person", "shed", "waiting", "count", "untilPermit", "bestShed", "ifSwept", "put", "wipe", "fault",
        "undo", "save", "restore");
    private static final int LONGEST_METHOD = 60;
    private static final int MOST_PARAMETERS = 7;
    private static final int MOST_CLASSES = 12;
    private static final int MOST_FIELDS = 20;
    private static final int MOST_CALLS_DEEP = 8;

    private final List<String> faults = new ArrayList<>();
    private final Map<String, Set<String>> calls = new HashMap<>();

    public static void main(String[] arguments) throws Exception {
        LanguageTest test = new LanguageTest();
        test.lookAtLines(withoutComments(Files.readString(SOURCE)).split("\n"));
        test.lookAtClasses();
        test.lookAtDepth();
        test.faults.forEach(System.out::println);
        System.out.println("LanguageTest: " + test.faults.size() + " faults");
        if (!test.faults.isEmpty()) {
            System.exit(1);
        }
    }

    private void lookAtLines(String[] lines) {
        int start = 0;
        int indent = 0;
        String name = "";
        for (int i = 0; i < lines.length; i++) {
            Matcher ruledOut = RULED_OUT.matcher(lines[i]);
            if (ruledOut.find()) {
                fault(i, "ruled out: " + ruledOut.group());
            }
            lookAtTypes(i, lines[i]);
            Matcher method = METHOD.matcher(lines[i]);
            if (method.find()) {
                start = i;
                indent = lines[i].length() - lines[i].stripLeading().length();
                name = method.group(1);
                lookAtHead(i, lines[i], method);
            } else {
                keepCalls(name, lines[i]);
            }
            if (lines[i].equals(" ".repeat(indent) + "}") && i - start >= LONGEST_METHOD) {
                fault(start, "more than " + LONGEST_METHOD + " lines");
            }
        }
    }

    private void lookAtTypes(int line, String text) {
        Set<String> own = new TreeSet<>(List.of("BikeSheds"));
        Arrays.stream(BikeSheds.class.getDeclaredClasses()).forEach(each -> own.add(each.getSimpleName()));
        Matcher type = TYPE.matcher(text);
        while (type.find()) {
            if (!LIBRARY.contains(type.group()) && !own.contains(type.group())) {
                fault(line, "not of the library that is allowed: " + type.group());
            }
        }
    }

    private void lookAtHead(int line, String text, Matcher method) {
        if (!text.contains("public ") && FACE.contains(method.group(1))) {
            fault(line, "bears the name of a public method");
        }
        if (method.group(2).split(",").length > MOST_PARAMETERS) {
            fault(line, "more than " + MOST_PARAMETERS + " parameters");
        }
    }

    private void keepCalls(String name, String text) {
        Matcher call = CALL.matcher(text);
        while (call.find()) {
            calls.computeIfAbsent(name, any -> new TreeSet<>()).add(call.group(1));
        }
    }

    private void lookAtClasses() {
        Class<?>[] classes = BikeSheds.class.getDeclaredClasses();
        if (classes.length > MOST_CLASSES) {
            faults.add("more than " + MOST_CLASSES + " classes");
        }
        lookAtFields(BikeSheds.class);
        for (Class<?> each : classes) {
            int modifiers = each.getModifiers();
            if (!Modifier.isStatic(modifiers) || Modifier.isPublic(modifiers) || Modifier.isProtected(modifiers)) {
                faults.add(each + " is not static, or to be seen from outside");
            }
            lookAtFields(each);
        }
    }

    private void lookAtFields(Class<?> owner) {
        int fields = 0;
        for (Field field : owner.getDeclaredFields()) {
            boolean isStatic = Modifier.isStatic(field.getModifiers());
            fields += isStatic ? 0 : 1;
            if (isStatic && !Modifier.isFinal(field.getModifiers())) {
                faults.add(field + " is static state");
            }
        }
        if (fields > MOST_FIELDS) {
            faults.add(owner + " has more than " + MOST_FIELDS + " fields");
        }
    }

    private void lookAtDepth() {
        for (String name : FACE) {
            int depth = depthOf(name, 0);
            if (depth > MOST_CALLS_DEEP) {
                faults.add("the calls of " + name + " go more than " + MOST_CALLS_DEEP + " deep, or call themselves");
            }
        }
    }

    /** How many calls stand open at once. A name stands for all methods that bear it: copyFrom may call that of a part. */
    private int depthOf(String name, int open) {
        int deepest = open + 1;
        for (String called : calls.getOrDefault(name, Set.of())) {
            if (calls.containsKey(called) && !called.equals(name) && deepest <= MOST_CALLS_DEEP) {
                deepest = Math.max(deepest, depthOf(called, open + 1));
            } else if (!calls.containsKey(called)) {
                deepest = Math.max(deepest, open + 2);
            }
        }
        return deepest;
    }

    private void fault(int line, String text) {
        faults.add(SOURCE + ":" + (line + 1) + ": " + text);
    }

    /** Blanks comments, and keeps the lines. */
    private static String withoutComments(String source) {
        Matcher comment = Pattern.compile("//[^\n]*|/\\*.*?\\*/", Pattern.DOTALL).matcher(source);
        return comment.replaceAll(match -> match.group().replaceAll("[^\n]", ""));
    }
}
