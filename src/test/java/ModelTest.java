import java.util.ArrayList;
import java.util.List;

/** Makes the same calls of the program and of the model, and compares the answers and all that can be asked. */
public final class ModelTest {
    private static final int RUNS = 600;
    private static final int CALLS = 250;
    private static final String[] CHANGES = {
        "set", "ask", "ask", "ask", "ask", "ask", "giveUp", "prolong", "park", "park", "park", "park", "ride", "answer", "fetch",
        "sweep", "sweep", "sweep", "use", "use", "pass", "pass", "pass", "undo", "save", "restore", "run"};
    private static final String[] QUESTIONS = {
        "person", "shed", "waiting", "count", "untilPermit", "untilPermit", "bestShed", "ifSwept", "put", "wipe", "fault"};
    private static final String[] DEEDS = {"?", "p", "r", "a", "f", "s", ".", "p", "p", "s"};

    private long seed;
    private final List<String> calls = new ArrayList<>();
    private BikeSheds sheds;
    private Model model;
    private int people;
    private int longest;

    public static void main(String[] arguments) {
        ModelTest test = new ModelTest();
        for (int run = 0; run < RUNS; run++) {
            if (!test.play(run)) {
                System.exit(1);
            }
        }
        System.out.println("ModelTest: " + RUNS + " runs of " + CALLS + " calls answer as the model does");
    }

    private int below(int bound) {
        seed = seed * 6364136223846793005L + 1442695040888963407L;
        return (int) ((seed >>> 33) % bound);
    }

    private boolean play(int run) {
        seed = run;
        calls.clear();
        sheds = new BikeSheds();
        model = new Model();
        people = 3 + below(18);
        longest = below(3) == 0 ? 99 : 12;
        // Few permits make for long wait lists.
        for (int rack = below(9); rack > 0; rack--) {
            for (int shed = 0; shed < 3; shed++) {
                if (!isAsDue("use", shed, rack - 1, 0)) {
                    return false;
                }
            }
        }
        for (int i = 0; i < CALLS; i++) {
            if (!playOne() || i % 8 == 0 && !isAllTheSame()) {
                return false;
            }
        }
        return isAllTheSame();
    }

    private boolean playOne() {
        if (below(30) == 0) {
            return playOdd();
        }
        String name = below(5) == 0 ? QUESTIONS[below(QUESTIONS.length)] : CHANGES[below(CHANGES.length)];
        switch (name) {
            case "set":
                return isAsDue(name, below(4), below(7), 0);
            case "ask":
                return isAsDue(name, below(people), below(3), 1 + below(longest));
            case "prolong":
                return isAsDue(name, below(people), 1 + below(longest), 0);
            case "use":
                return isAsDue(name, below(3), below(8), below(2));
            case "pass":
                return isAsDue(name, 1 + below(below(4) == 0 ? longest : 5), 0, 0);
            case "sweep":
                return isAsDue(name, below(3), 0, 0);
            case "save":
            case "restore":
                return isAsDue(name, below(2), 0, 0);
            case "person":
                return isAsDue(name, below(people), below(9), 0);
            case "shed":
                return isAsDue(name, below(3), below(7), 0);
            case "waiting":
                return isAsDue(name, below(3), below(4), below(3));
            case "count":
                return isAsDue(name, below(15), 0, 0);
            case "bestShed":
                return isAsDue(name, below(people), 1 + below(longest), below(2));
            case "ifSwept":
                return isAsDue(name, below(3), below(100), 0);
            case "put":
                return putDeeds();
            default:
                return isAsDue(name, below(people), 0, 0);
        }
    }

    /** Arguments that are mostly out of range. */
    private boolean playOdd() {
        int[] odd = {-1, 0, 1, 2, 3, 8, 9, 15, 20, 31, 60, 61, 99, 100, 101, Integer.MAX_VALUE, Integer.MIN_VALUE, -6, -5};
        String name = below(2) == 0 ? QUESTIONS[below(QUESTIONS.length)] : CHANGES[below(CHANGES.length)];
        if (name.equals("put")) {
            return isAsDue(name, (long) below(256) << 48 | (long) below(256) << 8 | below(256), 0, 0);
        }
        int third = name.equals("use") ? below(2) : odd[below(odd.length)];
        return isAsDue(name, odd[below(odd.length)], odd[below(odd.length)], third);
    }

    private boolean putDeeds() {
        StringBuilder text = new StringBuilder(below(3) == 0 ? ";" : "");
        for (int i = below(5); i >= 0; i--) {
            String deed = DEEDS[below(DEEDS.length)];
            char person = (char) ('A' + below(people));
            switch (deed) {
                case "?" -> text.append(person).append('?').append(below(3)).append(':').append(1 + below(longest));
                case "s" -> text.append('s').append(below(3));
                case "." -> text.append('.').append(1 + below(longest));
                default -> text.append(person).append(deed);
            }
            text.append(i > 0 ? ";" : "");
        }
        if (below(6) == 0) {
            text.setCharAt(below(text.length()), ";?:.spA019Uz"
                .charAt(below(12)));
        }
        for (int start = 0; start < text.length(); start += 8) {
            long characters = 0;
            for (int i = start; i < Math.min(start + 8, text.length()); i++) {
                characters = characters << 8 | text.charAt(i);
            }
            if (!isAsDue("put", characters, 0, 0)) {
                return false;
            }
        }
        return isAsDue("fault", 0, 0, 0) && (below(3) == 0 || isAsDue("run", 0, 0, 0)) && (below(4) > 0 || isAsDue("wipe", 0, 0, 0));
    }

    private boolean isAsDue(String name, long a, long b, long c) {
        calls.add(name + " " + a + " " + b + " " + c);
        int due = model.call(name, a, b, c);
        int got = Calls.call(sheds, name, a, b, c);
        if (got == due) {
            return true;
        }
        calls.forEach(System.out::println);
        System.out.println("ModelTest: the last call answered " + got + ", the model " + due);
        return false;
    }

    private boolean isAllTheSame() {
        int[] due = Calls.all((name, a, b, c) -> model.call(name, a, b, c));
        int[] got = Calls.all((name, a, b, c) -> Calls.call(sheds, name, a, b, c));
        for (int i = 0; i < due.length; i++) {
            if (due[i] != got[i]) {
                calls.forEach(System.out::println);
                System.out.println("ModelTest: behind these calls answer " + i + " of all questions is " + got[i] + ", the model's " + due[i]);
                return false;
            }
        }
        return true;
    }
}
