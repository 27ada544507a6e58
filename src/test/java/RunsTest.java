import java.io.IOException;
import java.lang.reflect.Method;
import java.nio.file.Files;
import java.nio.file.Path;
import java.util.ArrayList;
import java.util.List;
import java.util.stream.Stream;

/**
 * Plays the runs of calls in the texts of a folder, and tells every call whose answer is not the one that is due.
 *
 * <p>A line is "new" (a new object), or a call with the answer that is due, as in "ask 3 0 10 = 1". An argument
 * a..b stands for each value from a to b; then every such call is to answer the same. A constant of the class may
 * stand for a number. 'put "A?0:9"' puts all characters of a text; its answer is the last one. What follows # is for the reader.
 */
public final class RunsTest {
    private final String file;
    private BikeSheds sheds = new BikeSheds();
    private int line;
    private int right;
    private int wrong;

    private RunsTest(String file) {
        this.file = file;
    }

    public static void main(String[] arguments) throws Exception {
        int right = 0;
        int wrong = 0;
        for (Path path : texts(Path.of(arguments.length > 0 ? arguments[0] : "src/test/runs"))) {
            RunsTest runs = new RunsTest(path.getFileName().toString());
            for (String line : Files.readAllLines(path)) {
                runs.play(line);
            }
            right += runs.right;
            wrong += runs.wrong;
        }
        System.out.println("RunsTest: " + right + " answers are as due, " + wrong + " are not");
        if (wrong != 0 || right == 0) {
            System.exit(1);
        }
    }

    private static List<Path> texts(Path folder) throws IOException {
        try (Stream<Path> paths = Files.list(folder)) {
            return paths.filter(path -> path.toString().endsWith(".txt")).sorted().toList();
        }
    }

    private void play(String text) throws Exception {
        line++;
        String call = text.replaceFirst("#.*", "").trim();
        if (call.equals("new")) {
            sheds = new BikeSheds();
        } else if (!call.isEmpty()) {
            int equals = call.lastIndexOf(" = ");
            long due = number(call.substring(equals + 3).trim());
            String[] words = call.substring(0, equals).trim().split(" +");
            if (words.length > 1 && words[1].startsWith("\"")) {
                compare(call, putText(words[1].substring(1, words[1].length() - 1)), due);
            } else {
                playEach(words, 1, due);
            }
        }
    }

    private void playEach(String[] words, int index, long due) throws Exception {
        int i = index;
        while (i < words.length && !words[i].contains("..")) {
            i++;
        }
        if (i == words.length) {
            compare(String.join(" ", words), call(words), due);
            return;
        }
        String[] ends = words[i].split("\\.\\.");
        for (long value = number(ends[0]); value <= number(ends[1]); value++) {
            String[] each = words.clone();
            each[i] = Long.toString(value);
            playEach(each, i + 1, due);
        }
    }

    private int call(String[] words) throws Exception {
        Method method = methodOf(words[0]);
        Class<?>[] types = method.getParameterTypes();
        Object[] values = new Object[types.length];
        for (int i = 0; i < types.length; i++) {
            String word = words[i + 1];
            if (types[i] == boolean.class) {
                values[i] = Boolean.valueOf(word);
            } else if (types[i] == long.class) {
                values[i] = number(word);
            } else {
                values[i] = (int) number(word);
            }
        }
        if (words.length != types.length + 1) {
            throw new IllegalArgumentException(file + ":" + line + ": wrong number of arguments");
        }
        return (Integer) method.invoke(sheds, values);
    }

    private Method methodOf(String name) {
        for (Method method : BikeSheds.class.getMethods()) {
            if (method.getName().equals(name) && method.getDeclaringClass() == BikeSheds.class) {
                return method;
            }
        }
        throw new IllegalArgumentException(file + ":" + line + ": no method " + name);
    }

    private int putText(String text) {
        int answer = BikeSheds.NONE;
        for (int start = 0; start < text.length(); start += 8) {
            long characters = 0;
            for (int i = start; i < Math.min(start + 8, text.length()); i++) {
                characters = characters << 8 | text.charAt(i);
            }
            answer = sheds.put(characters);
        }
        return answer;
    }

    private static long number(String word) throws Exception {
        if (Character.isLetter(word.charAt(0))) {
            return BikeSheds.class.getField(word).getInt(null);
        }
        return word.startsWith("0x") ? Long.parseUnsignedLong(word.substring(2), 16) : Long.parseLong(word);
    }

    private void compare(String call, long got, long due) {
        if (got == due) {
            right++;
            return;
        }
        wrong++;
        System.out.println(file + ":" + line + ": " + call + " answered " + got + ", due is " + due);
    }
}
