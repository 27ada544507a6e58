import java.io.IOException;
import java.lang.reflect.Method;
import java.nio.file.Files;
import java.nio.file.Path;
import java.util.ArrayList;
import java.util.Arrays;
import java.util.List;
import java.util.Set;
import java.util.stream.Stream;

/**
 * Plays the runs of calls in the texts of some folders, and tells every call whose answer is not the one that is due.
 *
 * <p>A line is 'new' or 'new "what it is about"' (a new object), or a call with the answer that is due, as in
 * "ask 3 0 10 = 1"; the answer "ok" stands for every number from 0 up. An argument a..b stands for each value from a to
 * b; then every such call is to answer the same. "5 * pass 9 = 0" is that call five times. A constant of the class may
 * stand for a number. 'put "A?0:9"' puts all characters of a text; its answer is the last one. 'fault "A?0:9"' puts
 * them on an empty pad, asks for the fault, and wipes. What follows # is for the reader.
 *
 * <p>With each call it is looked at, too, that an error and a question change nothing, and that a change is recorded.
 */
public final class RunsTest {
    private static final String[] FOLDERS = {"src/test/runs", "src/test/edges"};
    private static final Set<String> CHANGES = Set.of("set", "ask", "giveUp", "prolong", "park", "ride", "answer", "fetch",
        "sweep", "use", "pass", "run", "restore");
    private static final Set<String> QUESTIONS = Set.of("person", "shed", "waiting", "count", "untilPermit", "bestShed",
        "ifSwept", "fault", "save");
    private static final int LONGEST_HISTORY = 6;

    private final String file;
    private BikeSheds sheds = new BikeSheds();
    private String title = "";
    private int line;
    private int right;
    private int wrong;

    private RunsTest(String file) {
        this.file = file;
    }

    public static void main(String[] arguments) throws Exception {
        int right = 0;
        int wrong = 0;
        for (Path path : texts(arguments.length > 0 ? arguments : FOLDERS)) {
            RunsTest runs = new RunsTest(path.toString());
            for (String line : Files.readAllLines(path)) {
                runs.play(line);
            }
            if (runs.right == 0) {
                runs.tell("no answer is as due");
            }
            right += runs.right;
            wrong += runs.wrong;
        }
        System.out.println("RunsTest: " + right + " answers are as due, " + wrong + " are not");
        if (wrong != 0 || right == 0) {
            System.exit(1);
        }
    }

    private static List<Path> texts(String[] folders) throws IOException {
        List<Path> texts = new ArrayList<>();
        for (String folder : folders) {
            try (Stream<Path> paths = Files.list(Path.of(folder))) {
                texts.addAll(paths.filter(path -> path.toString().endsWith(".txt")).sorted().toList());
            }
        }
        return texts;
    }

    private void play(String text) throws Exception {
        line++;
        String call = text.replaceFirst("#.*", "").trim();
        if (call.equals("new") || call.startsWith("new \"")) {
            sheds = new BikeSheds();
            title = call.substring(3).trim();
        } else if (!call.isEmpty()) {
            int equals = call.lastIndexOf(" = ");
            String due = call.substring(equals + 3).trim();
            String[] words = call.substring(0, equals).trim().split(" +");
            int times = 1;
            if (words.length > 2 && words[1].equals("*")) {
                times = Integer.parseInt(words[0]);
                words = Arrays.copyOfRange(words, 2, words.length);
            }
            for (int i = 0; i < times; i++) {
                playEach(words, 1, due);
            }
        }
    }

    private void playEach(String[] words, int index, String due) throws Exception {
        int i = index;
        while (i < words.length && (words[i].startsWith("\"") || !words[i].contains(".."))) {
            i++;
        }
        if (i == words.length) {
            playOne(words, due);
            return;
        }
        String[] ends = words[i].split("\\.\\.");
        for (long value = number(ends[0]); value <= number(ends[1]); value++) {
            String[] each = words.clone();
            each[i] = Long.toString(value);
            playEach(each, i + 1, due);
        }
    }

    private void playOne(String[] words, String due) throws Exception {
        String call = String.join(" ", words);
        int[] before = all();
        int recorded = sheds.count(14);
        int got = words.length > 1 && words[1].startsWith("\"") ? callWithText(words) : call(words);
        boolean isDue = due.equals("ok") ? got >= 0 : got == number(due);
        if (!isDue) {
            tell(call + " answered " + got + ", due is " + due);
        } else {
            right++;
        }
        boolean isError = got < 0 && got != BikeSheds.NONE;
        // What was put of a text stays, where only its end is refused.
        boolean changesNothing = QUESTIONS.contains(words[0]) || isError && !call.contains("\"");
        if (changesNothing && !Arrays.equals(before, all())) {
            tell(call + " changed something");
        }
        if (CHANGES.contains(words[0]) && !isError && sheds.count(14) != Math.min(recorded + 1, LONGEST_HISTORY)) {
            tell(call + " was not recorded once");
        }
    }

    private int[] all() {
        return Calls.all((name, a, b, c) -> Calls.call(sheds, name, a, b, c));
    }

    private int call(String[] words) throws Exception {
        Method method = methodOf(words[0]);
        Class<?>[] types = method.getParameterTypes();
        if (words.length != types.length + 1) {
            throw new IllegalArgumentException(file + ":" + line + ": wrong number of arguments");
        }
        Object[] values = new Object[types.length];
        for (int i = 0; i < types.length; i++) {
            String word = words[i + 1];
            if (types[i] == boolean.class) {
                values[i] = Boolean.valueOf(word);
            } else if (types[i] == long.class) {
                values[i] = number(word);
            } else {
                values[i] = Math.toIntExact(number(word));
            }
        }
        return (Integer) method.invoke(sheds, values);
    }

    private Method methodOf(String name) {
        for (Method method : BikeSheds.class.getMethods()) {
            if (method.getName().equals(name) && method.getDeclaringClass() == BikeSheds.class) {
                return method;
            }
        }
        throw new IllegalArgumentException(file + ":" + line + ": no method " + name);
    }

    private int callWithText(String[] words) {
        String text = words[1].substring(1, words[1].length() - 1);
        if (!words[0].equals("fault")) {
            return putText(text);
        }
        putText(text);
        int fault = sheds.fault();
        if (sheds.wipe() != text.length()) {
            tell("the pad was not empty, or too short, for " + text);
        }
        return fault;
    }

    private int putText(String text) {
        int answer = BikeSheds.NONE;
        for (int start = 0; start < text.length(); start += 8) {
            long characters = 0;
            for (int i = start; i < Math.min(start + 8, text.length()); i++) {
                characters = characters << 8 | text.charAt(i);
            }
            answer = sheds.put(characters);
        }
        return answer;
    }

    private static long number(String word) throws Exception {
        if (Character.isLetter(word.charAt(0))) {
            return BikeSheds.class.getField(word).getInt(null);
        }
        return word.startsWith("0x") ? Long.parseUnsignedLong(word.substring(2), 16) : Long.parseLong(word);
    }

    private void tell(String what) {
        wrong++;
        System.out.println(file + ":" + line + ": " + what + (title.isEmpty() ? "" : ", in the run " + title));
    }
}
