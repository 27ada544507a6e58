import java.util.ArrayList;
import java.util.List;

/** Calls by name, for the tests that make many. */
final class Calls {
    /** Who answers a call. */
    interface Answering {
        int call(String name, long a, long b, long c);
    }

    private Calls() {
    }

    static int call(BikeSheds sheds, String name, long a, long b, long c) {
        int x = (int) a;
        int y = (int) b;
        int z = (int) c;
        return switch (name) {
            case "set" -> sheds.set(x, y);
            case "ask" -> sheds.ask(x, y, z);
            case "giveUp" -> sheds.giveUp(x);
            case "prolong" -> sheds.prolong(x, y);
            case "park" -> sheds.park(x);
            case "ride" -> sheds.ride(x);
            case "answer" -> sheds.answer(x);
            case "fetch" -> sheds.fetch(x);
            case "sweep" -> sheds.sweep(x);
            case "use" -> sheds.use(x, y, z != 0);
            case "pass" -> sheds.pass(x);
            case "run" -> sheds.run();
            case "person" -> sheds.person(x, y);
            case "shed" -> sheds.shed(x, y);
            case "waiting" -> sheds.waiting(x, y, z);
            case "count" -> sheds.count(x);
            case "untilPermit" -> sheds.untilPermit(x);
            case "bestShed" -> sheds.bestShed(x, y, z);
            case "ifSwept" -> sheds.ifSwept(x, y);
            case "put" -> sheds.put(a);
            case "wipe" -> sheds.wipe();
            case "fault" -> sheds.fault();
            case "undo" -> sheds.undo();
            case "save" -> sheds.save(x);
            case "restore" -> sheds.restore(x);
            default -> throw new IllegalArgumentException(name);
        };
    }

    /** The answers to every question about what there is, the fault of the pad among them. */
    static int[] all(Answering answering) {
        List<Integer> answers = new ArrayList<>();
        for (int what = 0; what <= 14; what++) {
            answers.add(answering.call("count", what, 0, 0));
        }
        for (int person = 0; person < 20; person++) {
            for (int what = 0; what <= 8; what++) {
                answers.add(answering.call("person", person, what, 0));
            }
        }
        for (int shed = 0; shed < 3; shed++) {
            for (int what = 0; what <= 6; what++) {
                answers.add(answering.call("shed", shed, what, 0));
            }
            for (int place = 0; place <= 20; place++) {
                for (int what = 0; what <= 2; what++) {
                    answers.add(answering.call("waiting", shed, place, what));
                }
            }
        }
        answers.add(answering.call("fault", 0, 0, 0));
        return answers.stream().mapToInt(answer -> answer).toArray();
    }
}
